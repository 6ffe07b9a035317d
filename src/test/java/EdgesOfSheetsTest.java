/** The edges that promises 30 to 34 and section 4 of the Terms name: SHEETS. */
public final class EdgesOfSheetsTest {
    private static final Due DUE = new Due("EdgesOfSheetsTest");
    private static final Edges EDGES = new Edges(DUE);
    private static final int[] BITS = {8, 16, 32};

    public static void main(String[] args) {
        Edges.run(EdgesOfSheetsTest.class, DUE);
    }

    /** Six JUMPERS: their BREATH shows what stands on a SHEET. */
    private static RopeTreaty yard() {
        RopeTreaty x = new RopeTreaty();
        for (int j = 0; j < 6; j++) {
            x.jumper(0, 50, 0);
        }
        return x;
    }

    /** As yard(), with a SHEET 0 of 24 numbers 1 .. 24 of so many bits, and a SHEET 1 of 24, all 0. */
    private static RopeTreaty full(int bits) {
        RopeTreaty x = yard();
        x.sheet(0, bits, 24);
        x.sheet(1, bits, 24);
        for (int i = 0; i < 24; i++) {
            x.put(0, i, 1 + i);
        }
        return x;
    }

    private static RopeTreaty fullOf8() {
        return full(8);
    }

    /** Numbers of a SHEET, from number i on, in sixes: moved to a SHEET 3, they become BREATH. */
    private static void numbers(String when, RopeTreaty x, int sheet, int bits, int from, int... due) {
        x.sheet(3, bits, 6);
        for (int i = 0; i < due.length; i += 6) {
            int n = Math.min(6, due.length - i);
            DUE.is(when + ", move", x.move(sheet, from + i, 3, 0, n), n);
            x.breaths(3);
            for (int j = 0; j < n; j++) {
                DUE.is(when + ", number " + (from + i + j), x.jumperIs(j, 2), due[i + j]);
            }
        }
    }

    private static int[] row(int n, int first) {
        int[] row = new int[n];
        for (int i = 0; i < n; i++) {
            row[i] = first + i;
        }
        return row;
    }

    // ---- section 4

    /** "SHEETS 0 .. 3 are .. missing (as at first)". */
    private static void s4_sheetsAreMissingAtFirst() {
        for (int s = 0; s < 4; s++) {
            int sheet = s;
            EDGES.refused("put(" + s + ", 0, 1)", Edges::fresh, x -> x.put(sheet, 0, 1), Due.NONE);
            EDGES.refused("breaths(" + s + ")", Edges::fresh, x -> x.breaths(sheet), Due.NONE);
        }
    }

    /** "rows of 8, 16, 32 bits": a number of 8 holds 255, not 256; BREATH of 256 and 99 is 99. */
    private static void s4_eightBits() {
        RopeTreaty x = yard();
        x.sheet(0, 8, 1);
        holds(x, 99, 1);
        holds(x, 255, 0);
        holds(x, 256, 1);
        holds(x, 256 + 99, 1);
        holds(x, 256 + 100, 0);
        holds(x, 65536, 1);
        holds(x, -256, 1);
        holds(x, -1, 0);
        holds(x, Edges.MIN, 1);
        holds(x, Edges.MAX, 0);
    }

    /** "rows of 8, 16, 32 bits": a number of 16 holds 65535, not 65536. */
    private static void s4_sixteenBits() {
        RopeTreaty x = yard();
        x.sheet(0, 16, 1);
        holds(x, 99, 1);
        holds(x, 256, 0);
        holds(x, 65535, 0);
        holds(x, 65536, 1);
        holds(x, 65536 + 99, 1);
        holds(x, 65536 + 100, 0);
        holds(x, -65536, 1);
        holds(x, -1, 0);
        holds(x, Edges.MIN, 1);
        holds(x, Edges.MAX, 0);
    }

    /** "rows of 8, 16, 32 bits": a number of 32 holds every int. */
    private static void s4_thirtyTwoBits() {
        RopeTreaty x = yard();
        x.sheet(0, 32, 1);
        holds(x, 99, 1);
        holds(x, 256, 0);
        holds(x, 65536, 0);
        holds(x, 1 << 24, 0);
        holds(x, -65536, 0);
        holds(x, -1, 0);
        holds(x, Edges.MIN, 0);
        holds(x, Edges.MAX, 0);
    }

    /** Number 0 of SHEET 0 becomes v: it is (1) or isn't (0) a BREATH then, by its lowest bits. */
    private static void holds(RopeTreaty x, int v, int breaths) {
        DUE.is("put(0, 0, " + v + ")", x.put(0, 0, v), 1);
        DUE.is("breaths(0) of " + v, x.breaths(0), breaths);
        if (breaths == 1) {
            DUE.is("BREATH of " + v, x.jumperIs(0, 2), v & 127);
        }
    }

    // ---- promise 30

    /** "A SHEET" (0 .. 3): else "BEYOND". */
    private static void p30_sheetIs0To3() {
        EDGES.outside("sheet, sheet", Edges::busy, (x, v) -> x.sheet(v, 8, 1), 0, 3);
        EDGES.outside("sheet, sheet, missing", Edges::busy, (x, v) -> x.sheet(v, 0, 1), 0, 3);
    }

    /** "(8, 16, 32; 0: it is missing ..)": else "BEYOND". */
    private static void p30_bitsAre8Or16Or32Or0() {
        int[] wrong = {Edges.MIN, -32, -16, -8, -1, 1, 7, 9, 15, 17, 24, 31, 33, 64, Edges.MAX};
        EDGES.beyond("sheet, bits", Edges::busy, (x, v) -> x.sheet(1, v, 2), wrong);
        for (int bits : BITS) {
            DUE.is("sheet of " + bits, Edges.busy().sheet(1, bits, 2), 1);
        }
        DUE.is("sheet of 0", Edges.busy().sheet(1, 0, 2), 1);
    }

    /** "at most 24 numbers": 24 are, none is; "BEYOND of n". */
    private static void p30_atMost24Numbers() {
        for (int bits : BITS) {
            RopeTreaty x = yard();
            DUE.is("24 numbers", x.sheet(2, bits, 24), 1);
            DUE.is("the last", x.put(2, 23, 1), 1);
            DUE.is("no 25th", x.put(2, 24, 1), Due.BEYOND);
            EDGES.beyond("sheet, n, of " + bits, Edges::busy, (y, v) -> y.sheet(1, bits, v), 25, 26, Edges.MAX);
        }
    }

    /** "n numbers": 0 of them; it is not missing then. */
    private static void p30_noNumbers() {
        for (int bits : BITS) {
            RopeTreaty x = yard();
            DUE.is("sheet", x.sheet(0, bits, 0), 1);
            DUE.is("no number 0", x.put(0, 0, 1), Due.BEYOND);
            DUE.is("breaths", x.breaths(0), 0);
            DUE.is("judge", x.judge(0), 0);
            DUE.is("fits", x.fits(0), 0);
            DUE.is("move", x.move(0, 0, 0, 0, 0), 0);
            DUE.is("told(2)", x.told(2), 0);
        }
    }

    /** "all 0": also where others stood, those behind the end of a shorter one among them. */
    private static void p30_allZero() {
        RopeTreaty x = full(8);
        x.sheet(0, 8, 3);
        numbers("three", x, 0, 8, 0, 0, 0, 0);
        x.sheet(0, 8, 24);
        numbers("all again", x, 0, 8, 0, new int[24]);
        RopeTreaty y = full(16);
        y.sheet(0, 0, 0);
        y.sheet(0, 16, 24);
        numbers("behind missing", y, 0, 16, 0, new int[24]);
    }

    /** "0: it is missing, n doesn't matter": not even below 0 or above 24. */
    private static void p30_missingWhateverNIs() {
        for (int n : new int[] {Edges.MIN, -1, 0, 1, 24, 25, Edges.MAX}) {
            RopeTreaty x = Edges.busy();
            DUE.is("sheet(0, 0, " + n + ")", x.sheet(0, 0, n), 1);
            DUE.is("it is missing", x.put(0, 0, 1), Due.NONE);
            DUE.is("sheet(3, 0, " + n + ")", x.sheet(3, 0, n), 1);
            DUE.is("that one still is", x.judge(3), Due.NONE);
            DUE.is("told(3)", x.told(3), 0);
        }
    }

    /** "STATE: n is below 0". */
    private static void p30_stateIfNIsBelowZero() {
        for (int n : new int[] {Edges.MIN, -25, -1}) {
            for (int bits : BITS) {
                EDGES.refused("sheet(1, " + bits + ", " + n + ")", Edges::busy, x -> x.sheet(1, bits, n), Due.STATE);
            }
        }
    }

    /** "(ahead of BEYOND of n)": behind BEYOND of the SHEET and of the bits. */
    private static void p30_beyondOfTheOthersIsAskedAheadOfState() {
        EDGES.refused("sheet(4, 8, -1)", Edges::busy, x -> x.sheet(4, 8, -1), Due.BEYOND);
        EDGES.refused("sheet(-1, 8, -1)", Edges::busy, x -> x.sheet(-1, 8, -1), Due.BEYOND);
        EDGES.refused("sheet(1, 9, -1)", Edges::busy, x -> x.sheet(1, 9, -1), Due.BEYOND);
        EDGES.refused("sheet(4, 0, -1)", Edges::busy, x -> x.sheet(4, 0, -1), Due.BEYOND);
    }

    // ---- promise 31

    /** "BEYOND: no such SHEET". */
    private static void p31_sheetIs0To3() {
        EDGES.outside("put, sheet", Edges::busy, (x, v) -> x.put(v, 0, 5), 0, 3);
        EDGES.outside("put, sheet, all missing", Edges::fresh, (x, v) -> x.put(v, 0, 5), 0, 3);
    }

    /** "NONE: it is missing", ahead of "BEYOND: no such number". */
    private static void p31_noneIsAskedAheadOfTheNumber() {
        EDGES.refused("put(3, 0, 5)", Edges::busy, x -> x.put(3, 0, 5), Due.NONE);
        EDGES.refused("put(3, -1, 5)", Edges::busy, x -> x.put(3, -1, 5), Due.NONE);
        EDGES.refused("put(3, 24, 5)", Edges::busy, x -> x.put(3, 24, 5), Due.NONE);
    }

    /** "BEYOND: no such number": of 6, 5 and 4 numbers, and of 24. */
    private static void p31_noSuchNumber() {
        for (int s = 0; s < 3; s++) {
            int sheet = s;
            EDGES.outside("put, i of sheet " + s, Edges::busy, (x, v) -> x.put(sheet, v, 5), 0, 5 - s);
        }
        EDGES.outside("put, i of 24", EdgesOfSheetsTest::fullOf8, (x, v) -> x.put(0, v, 5), 0, 23);
        EDGES.beyond("put, i of 6", Edges::busy, (x, v) -> x.put(0, v, 5), 23, 24, 31);
    }

    /** "Number i of a SHEET becomes v": the first and the last, no other. */
    private static void p31_firstAndLast() {
        for (int bits : BITS) {
            RopeTreaty x = full(bits);
            DUE.is("put(1, 0, 7)", x.put(1, 0, 7), 1);
            DUE.is("put(1, 23, 9)", x.put(1, 23, 9), 1);
            int[] due = new int[24];
            due[0] = 7;
            due[23] = 9;
            numbers("SHEET 1", x, 1, bits, 0, due);
            numbers("SHEET 0", x, 0, bits, 0, row(24, 1));
        }
    }

    // ---- promise 32

    /** "BEYOND: no such SHEET": the one or the other. */
    private static void p32_sheetsAre0To3() {
        EDGES.outside("move, sheet", Edges::busy, (x, v) -> x.move(v, 0, 0, 0, 1), 0, 3);
        EDGES.outside("move, other", Edges::busy, (x, v) -> x.move(0, 0, v, 0, 1), 0, 3);
    }

    /** "BEYOND: no such SHEET" ahead of "NONE: one is missing". */
    private static void p32_sheetsAreAskedAheadOfMissing() {
        EDGES.refused("move(3, 0, 4, 0, 1)", Edges::busy, x -> x.move(3, 0, 4, 0, 1), Due.BEYOND);
        EDGES.refused("move(-1, 0, 3, 0, 1)", Edges::busy, x -> x.move(-1, 0, 3, 0, 1), Due.BEYOND);
    }

    /** "NONE: one is missing": the one, the other, both (or the same). */
    private static void p32_noneIfOneIsMissing() {
        EDGES.refused("move(3, 0, 0, 0, 1)", Edges::busy, x -> x.move(3, 0, 0, 0, 1), Due.NONE);
        EDGES.refused("move(0, 0, 3, 0, 1)", Edges::busy, x -> x.move(0, 0, 3, 0, 1), Due.NONE);
        EDGES.refused("move(3, 0, 3, 0, 0)", Edges::busy, x -> x.move(3, 0, 3, 0, 0), Due.NONE);
    }

    /** "NONE: one is missing" ahead of "KIND" and of "BEYOND: n, i, or j is below 0". */
    private static void p32_noneIsAskedAheadOfKindAndPlaces() {
        EDGES.refused("move(2, 0, 3, 0, 1)", Edges::busy, x -> x.move(2, 0, 3, 0, 1), Due.NONE);
        EDGES.refused("move(0, -1, 3, -1, -1)", Edges::busy, x -> x.move(0, -1, 3, -1, -1), Due.NONE);
        EDGES.refused("move(3, 9, 0, 9, 9)", Edges::busy, x -> x.move(3, 9, 0, 9, 9), Due.NONE);
    }

    /** "KIND: they are of unlike bits": each two, also of 0 numbers. */
    private static void p32_kindIfOfUnlikeBits() {
        for (int s = 0; s < 3; s++) {
            for (int other = 0; other < 3; other++) {
                int from = s;
                int to = other;
                String call = "move(" + s + ", 0, " + other + ", 0, n)";
                if (s != other) {
                    EDGES.refused(call, Edges::busy, x -> x.move(from, 0, to, 0, 1), Due.KIND);
                    EDGES.refused(call, Edges::busy, x -> x.move(from, 0, to, 0, 0), Due.KIND);
                }
            }
        }
    }

    /** "KIND" ahead of "BEYOND: n, i, or j is below 0, or they don't stand there". */
    private static void p32_kindIsAskedAheadOfPlaces() {
        EDGES.refused("move, n -1", Edges::busy, x -> x.move(0, 0, 1, 0, -1), Due.KIND);
        EDGES.refused("move, i -1", Edges::busy, x -> x.move(0, -1, 1, 0, 1), Due.KIND);
        EDGES.refused("move, j -1", Edges::busy, x -> x.move(0, 0, 1, -1, 1), Due.KIND);
        EDGES.refused("move, n 25", Edges::busy, x -> x.move(0, 0, 1, 0, 25), Due.KIND);
    }

    /** "BEYOND: n, i, or j is below 0". */
    private static void p32_placesBelowZero() {
        int[] below = {Edges.MIN, -24, -1};
        EDGES.beyond("move, n", EdgesOfSheetsTest::fullOf8, (x, v) -> x.move(0, 0, 1, 0, v), below);
        EDGES.beyond("move, i", EdgesOfSheetsTest::fullOf8, (x, v) -> x.move(0, v, 1, 0, 1), below);
        EDGES.beyond("move, j", EdgesOfSheetsTest::fullOf8, (x, v) -> x.move(0, 0, 1, v, 1), below);
        EDGES.beyond("move, i, of none", EdgesOfSheetsTest::fullOf8, (x, v) -> x.move(0, v, 1, 0, 0), below);
        EDGES.beyond("move, j, of none", EdgesOfSheetsTest::fullOf8, (x, v) -> x.move(0, 0, 1, v, 0), below);
        EDGES.beyond("move, n and i", EdgesOfSheetsTest::fullOf8, (x, v) -> x.move(0, 5, 1, 5, v), below);
    }

    /** "BEYOND: .. or they don't stand there": one too many, of the one SHEET and of the other. */
    private static void p32_theyDontStandThere() {
        EDGES.beyond("move, n", EdgesOfSheetsTest::fullOf8, (x, v) -> x.move(0, 0, 1, 0, v), 25, 48, Edges.MAX);
        EDGES.beyond("move, i", EdgesOfSheetsTest::fullOf8, (x, v) -> x.move(0, v, 1, 0, 1), 24, 25, Edges.MAX);
        EDGES.beyond("move, j", EdgesOfSheetsTest::fullOf8, (x, v) -> x.move(0, 0, 1, v, 1), 24, 25, Edges.MAX);
        EDGES.beyond("move, i of 20", EdgesOfSheetsTest::fullOf8, (x, v) -> x.move(0, v, 1, 0, 20), 5, 6, Edges.MAX);
        EDGES.beyond("move, j of 20", EdgesOfSheetsTest::fullOf8, (x, v) -> x.move(0, 0, 1, v, 20), 5, 6, Edges.MAX);
        EDGES.beyond("move, i of none", EdgesOfSheetsTest::fullOf8, (x, v) -> x.move(0, v, 1, 0, 0), 25, Edges.MAX);
        EDGES.beyond("move, j of none", EdgesOfSheetsTest::fullOf8, (x, v) -> x.move(0, 0, 1, v, 0), 25, Edges.MAX);
    }

    /** "they don't stand there": i and n, or j and n, whose sum wraps. */
    private static void p32_sumsThatWrap() {
        for (int v : new int[] {Edges.MAX, Edges.MAX - 1, Edges.MAX - 23}) {
            EDGES.refused("move, i and n", EdgesOfSheetsTest::fullOf8, x -> x.move(0, v, 1, 0, v), Due.BEYOND);
            EDGES.refused("move, j and n", EdgesOfSheetsTest::fullOf8, x -> x.move(0, 0, 1, v, v), Due.BEYOND);
            EDGES.refused("move, n", EdgesOfSheetsTest::fullOf8, x -> x.move(0, 23, 1, 23, v), Due.BEYOND);
        }
    }

    /** "n numbers": all 24, the last one, none at the end. */
    private static void p32_asManyAsStandThere() {
        for (int bits : BITS) {
            RopeTreaty x = full(bits);
            DUE.is("all", x.move(0, 0, 1, 0, 24), 24);
            numbers("all", x, 1, bits, 0, row(24, 1));
            DUE.is("the last to the first", x.move(0, 23, 1, 0, 1), 1);
            DUE.is("the first to the last", x.move(0, 0, 1, 23, 1), 1);
            numbers("the first", x, 1, bits, 0, 24, 2);
            numbers("the last", x, 1, bits, 22, 23, 1);
        }
    }

    /** "n": of 0 numbers nothing comes, at the start and right at the end. */
    private static void p32_noneAtAll() {
        EDGES.unchanged("at the start", EdgesOfSheetsTest::fullOf8, x -> x.move(0, 0, 1, 0, 0), 0);
        EDGES.unchanged("at the end", EdgesOfSheetsTest::fullOf8, x -> x.move(0, 24, 1, 24, 0), 0);
    }

    /** "they don't stand there": of SHEETS of unlike lengths, by the one's own and by the other's own. */
    private static void p32_ofUnlikeLengths() {
        RopeTreaty x = full(8);
        x.sheet(2, 8, 3);
        DUE.is("four to three", x.move(0, 0, 2, 0, 4), Due.BEYOND);
        DUE.is("four of three", x.move(2, 0, 0, 0, 4), Due.BEYOND);
        DUE.is("three from 21 on", x.move(0, 21, 2, 0, 3), 3);
        numbers("three", x, 2, 8, 0, 22, 23, 24);
        DUE.is("three to 21 on", x.move(2, 0, 1, 21, 3), 3);
        DUE.is("two to the second on", x.move(1, 0, 2, 1, 2), 2);
        numbers("the first stays", x, 2, 8, 0, 22, 0, 0);
    }

    /** "(or the same) .. as they all were": on and back over itself, by one, of 24. */
    private static void p32_theSameAsTheyAllWere() {
        RopeTreaty x = full(16);
        DUE.is("on", x.move(0, 0, 0, 1, 23), 23);
        numbers("the first stays", x, 0, 16, 0, 1);
        numbers("on", x, 0, 16, 1, row(23, 1));
        RopeTreaty y = full(16);
        DUE.is("back", y.move(0, 1, 0, 0, 23), 23);
        numbers("back", y, 0, 16, 0, row(23, 2));
        numbers("the last stays", y, 0, 16, 23, 24);
        DUE.is("to where they stand", y.move(0, 0, 0, 0, 24), 24);
        numbers("they stay", y, 0, 16, 0, row(23, 2));
    }

    /** "n numbers of a SHEET .. come to another one": the one keeps its own. */
    private static void p32_theOneKeepsItsNumbers() {
        RopeTreaty x = full(32);
        x.move(0, 3, 1, 0, 4);
        numbers("the one", x, 0, 32, 0, row(24, 1));
        x.put(0, 3, 77);
        numbers("the other", x, 1, 32, 0, 4, 5, 6, 7, 0);
    }

    // ---- promise 33

    /** "BEYOND: no such SHEET". */
    private static void p33_sheetIs0To3() {
        EDGES.outside("breaths", Edges::busy, (x, v) -> x.breaths(v), 0, 3);
        EDGES.outside("breaths, all missing", Edges::fresh, (x, v) -> x.breaths(v), 0, 3);
    }

    /** "NONE: it is missing". */
    private static void p33_noneIfItIsMissing() {
        EDGES.refused("breaths(3)", Edges::busy, x -> x.breaths(3), Due.NONE);
    }

    /** "up to the first that is not 0 to 99 (no ERROR then)": those ahead have come, those behind have not. */
    private static void p33_upToTheFirstThatIsNoBreath() {
        for (int v : new int[] {100, 101, 255, -1, Edges.MIN, Edges.MAX}) {
            RopeTreaty x = yard();
            x.sheet(0, 32, 6);
            for (int i = 0; i < 6; i++) {
                x.put(0, i, 10 + i);
            }
            x.put(0, 2, v);
            DUE.is("breaths(0), the third " + v, x.breaths(0), 2);
            int[] due = {10, 11, 50, 50, 50, 50};
            for (int j = 0; j < 6; j++) {
                DUE.is("BREATH of " + j, x.jumperIs(j, 2), due[j]);
            }
            DUE.is("no ERROR", x.told(1) + x.told(2) + x.told(3), 0);
        }
    }

    /** "not 0 to 99": 0 and 99 are. */
    private static void p33_zeroAndNinetyNineAreBreath() {
        RopeTreaty x = yard();
        x.sheet(0, 8, 2);
        x.put(0, 1, 99);
        DUE.is("breaths(0)", x.breaths(0), 2);
        DUE.is("BREATH of 0", x.jumperIs(0, 2), 0);
        DUE.is("BREATH of 1", x.jumperIs(1, 2), 99);
    }

    /** "up to the first that is not 0 to 99": the first of all. */
    private static void p33_theFirstIsNoBreath() {
        RopeTreaty x = Edges.busy();
        x.sheet(0, 8, 3);
        x.put(0, 0, 100);
        RopeTreaty twin = Edges.busy();
        twin.sheet(0, 8, 3);
        twin.put(0, 0, 100);
        DUE.is("breaths(0)", x.breaths(0), 0);
        EDGES.alike("none came", x, twin, 0);
    }

    /** "or for which there is no JUMPER": none at all, five of 24, six of 24. */
    private static void p33_upToTheFirstForWhichThereIsNoJumper() {
        for (int n = 0; n <= 6; n++) {
            RopeTreaty x = new RopeTreaty();
            for (int j = 0; j < n; j++) {
                x.jumper(0, 50, 0);
            }
            x.sheet(0, 16, 24);
            DUE.is("of " + n + " JUMPERS", x.breaths(0), n);
            DUE.is("no ERROR", x.told(1), 0);
            DUE.is("how many", x.count(0), n);
        }
    }

    /** "Numbers of a SHEET become BREATH of JUMPERS 0, 1, ..": of fewer numbers the others' stays. */
    private static void p33_fewerNumbersThanJumpers() {
        RopeTreaty x = yard();
        x.sheet(0, 32, 2);
        DUE.is("breaths(0)", x.breaths(0), 2);
        DUE.is("BREATH of 1", x.jumperIs(1, 2), 0);
        DUE.is("BREATH of 2", x.jumperIs(2, 2), 50);
        x.sheet(0, 32, 0);
        DUE.is("of no numbers", x.breaths(0), 0);
    }

    // ---- promise 34

    /** "BEYOND: no such SHEET". */
    private static void p34_sheetIs0To3() {
        EDGES.outside("judge", Edges::busy, (x, v) -> x.judge(v), 0, 3);
        EDGES.outside("judge, all missing", Edges::fresh, (x, v) -> x.judge(v), 0, 3);
    }

    /** "NONE: it is missing". */
    private static void p34_noneIfItIsMissing() {
        EDGES.refused("judge(3)", Edges::busy, x -> x.judge(3), Due.NONE);
    }

    /** "how many are right, from the first on": none, some, all of six; it changes nothing. */
    private static void p34_fromTheFirstOn() {
        for (int wrong = 0; wrong <= 6; wrong++) {
            RopeTreaty x = yard();
            x.sheet(0, 32, 6);
            for (int i = 0; i < 6; i++) {
                x.put(0, i, i == wrong ? 2 : 1);
            }
            DUE.is("the first wrong one is " + wrong, x.judge(0), wrong);
        }
        EDGES.unchanged("judge(0)", Edges::busy, x -> x.judge(0), 0);
    }

    /** "what a beat COSTS JUMPERS 0, 1, ..": a number for which there is no JUMPER is not right. */
    private static void p34_moreNumbersThanJumpers() {
        RopeTreaty x = new RopeTreaty();
        x.sheet(0, 8, 24);
        DUE.is("24 of 0, no JUMPERS", x.judge(0), 0);
        Due.text(x, 0, "0");
        x.jumper(0, 0, 0);
        DUE.is("24 of 0, one JUMPER", x.judge(0), 1);
        for (int j = 1; j < 6; j++) {
            x.jumper(0, 0, 0);
        }
        DUE.is("24 of 0, six JUMPERS", x.judge(0), 6);
    }

    /** "how many are right": of fewer numbers than JUMPERS, and of none. */
    private static void p34_fewerNumbersThanJumpers() {
        RopeTreaty x = yard();
        Due.text(x, 0, "0");
        x.sheet(0, 8, 2);
        DUE.is("of two", x.judge(0), 2);
        x.sheet(0, 8, 0);
        DUE.is("of none", x.judge(0), 0);
    }

    /** "what a beat COSTS .. now": 0 and 20, the least and the most, and what is beside them. */
    private static void p34_leastAndMostCosts() {
        RopeTreaty x = yard();
        x.sheet(0, 32, 1);
        int[][] due = {{0, 1, 0}, {0, -1, 0}, {0, 0, 1}, {99, 19, 0}, {99, 20, 1}, {99, 21, 0}, {99, 99, 0}};
        for (int[] d : due) {
            Due.text(x, 0, d[0] == 0 ? "0-1" : "99");
            x.put(0, 0, d[1]);
            DUE.is(d[1] + " by a text of " + d[0], x.judge(0), d[2]);
        }
    }
}
