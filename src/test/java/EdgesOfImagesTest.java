/** The edges that promises 35 to 40 name: images, numbers that wait, what is counted and told. */
public final class EdgesOfImagesTest {
    private static final Due DUE = new Due("EdgesOfImagesTest");
    private static final Edges EDGES = new Edges(DUE);

    public static void main(String[] args) {
        Edges.run(EdgesOfImagesTest.class, DUE);
    }

    /** As busy(), with 24 numbers that wait. */
    private static RopeTreaty waitingFull() {
        RopeTreaty x = Edges.busy();
        for (int waiting = x.count(9); waiting < 24; waiting++) {
            x.tell(waiting);
        }
        return x;
    }

    /** As busy(), nothing waits. */
    private static RopeTreaty nothingWaits() {
        RopeTreaty x = Edges.busy();
        x.check();
        return x;
    }

    private static RopeTreaty withBreaths(int... breaths) {
        RopeTreaty x = new RopeTreaty();
        for (int breath : breaths) {
            x.jumper(0, breath, 0);
        }
        return x;
    }

    private static void tell(RopeTreaty x, int... numbers) {
        for (int v : numbers) {
            x.tell(v);
        }
    }

    // ---- promise 35

    /** "how often that was done": 1 at first, the latest with it. */
    private static void p35_howOften() {
        RopeTreaty x = new RopeTreaty();
        for (int i = 1; i <= 40; i++) {
            DUE.is("image()", x.image(), i);
        }
    }

    /** "All .. is kept as an IMAGE": that changes nothing else. */
    private static void p35_nothingElseChanges() {
        RopeTreaty x = Edges.busy();
        x.beats(1);
        x.image();
        DUE.is("restore() at once", x.restore(), 7);
        RopeTreaty twin = Edges.busy();
        twin.beats(1);
        twin.image();
        EDGES.alike("image() and restore()", x, twin, 0);
    }

    /** "in place of one ahead": the one ahead is gone. */
    private static void p35_inPlaceOfOneAhead() {
        RopeTreaty x = Edges.busy();
        x.image();
        x.beats(9);
        DUE.is("restore()", x.restore(), 6);
    }

    /** "All": of a new object, too. */
    private static void p35_ofANewObject() {
        RopeTreaty x = new RopeTreaty();
        x.image();
        x.jumper(69, 99, 1);
        x.jump(0, 1);
        x.bar(77);
        x.talk(0, 5);
        x.bar(0);
        x.talk(0, 5);
        x.beats(40);
        x.seed(5);
        x.tell(5);
        Due.text(x, 0, "1");
        Due.text(x, 1, "1");
        Due.feed(x, "1+1");
        DUE.is("restore()", x.restore(), 0);
        RopeTreaty twin = new RopeTreaty();
        twin.image();
        EDGES.alike("as new", x, twin, 0);
    }

    /** "All": six JUMPERS, a full TAPE, 24 numbers that wait. */
    private static void p35_ofAFullObject() {
        RopeTreaty x = fullOfAll();
        x.beats(20);
        x.text(1);
        x.check();
        x.untell(0);
        x.rest(5, 1);
        x.restore();
        EDGES.alike("as full as it was", x, fullOfAll(), 0);
    }

    private static RopeTreaty fullOfAll() {
        RopeTreaty x = Edges.crowded();
        Due.feed(x, "+1".repeat(27) + "7");
        for (int waiting = x.count(9); waiting < 24; waiting++) {
            x.tell(waiting);
        }
        x.image();
        return x;
    }

    /** "(but SHEETS, ..)": they stay as they are, those that are missing, too. */
    private static void p35_sheetsAreNotKept() {
        RopeTreaty x = Edges.busy();
        x.image();
        x.sheet(0, 0, 0);
        x.put(1, 0, 44);
        x.sheet(3, 8, 1);
        x.restore();
        DUE.is("SHEET 0 is missing", x.judge(0), Due.NONE);
        DUE.is("SHEET 1", x.breaths(1), 5);
        DUE.is("its first number", x.jumperIs(0, 2), 44);
        DUE.is("SHEET 3", x.put(3, 0, 1), 1);
    }

    /** "(but .. THE TRACE, ..)". */
    private static void p35_traceIsNotKept() {
        RopeTreaty x = Edges.busy();
        x.image();
        x.voice(0, 0, 1);
        x.restore();
        DUE.is("count(10)", x.count(10), 1);
        DUE.is("body(0)", x.body(0), 10);
    }

    /** "(but .. what told() tells ..)". */
    private static void p35_toldIsNotKept() {
        RopeTreaty x = new RopeTreaty();
        x.bar(100);
        x.image();
        x.bar(100);
        x.body(0);
        x.restore();
        DUE.is("told(1)", x.told(1), 2);
        DUE.is("told(2)", x.told(2), 1);
    }

    /** "(but .. how often this was done)". */
    private static void p35_howOftenIsNotKept() {
        RopeTreaty x = new RopeTreaty();
        x.image();
        x.image();
        x.restore();
        x.restore();
        DUE.is("image()", x.image(), 3);
    }

    // ---- promise 36

    /** "NONE: there is none". */
    private static void p36_noneIfThereIsNone() {
        EDGES.refused("restore()", EdgesOfImagesTest::busyWithoutImage, x -> x.restore(), Due.NONE);
        EDGES.refused("restore() of a new object", Edges::fresh, x -> x.restore(), Due.NONE);
    }

    private static RopeTreaty busyWithoutImage() {
        RopeTreaty x = withBreaths(1, 50, 99);
        x.jump(2, 1);
        x.beats(6);
        Due.text(x, 1, "l+1");
        Due.feed(x, "c");
        tell(x, 7, 56);
        x.voice(1, 2, 3);
        return x;
    }

    /** "the IMAGE .., which stays": again and again, though what it gave back is changed. */
    private static void p36_theImageStays() {
        RopeTreaty x = Edges.busy();
        x.image();
        for (int i = 0; i < 3; i++) {
            x.beats(20);
            x.become(1, 69);
            x.spell(0, 1);
            Due.feed(x, "1");
            x.text(1);
            x.check();
            x.tell(-1);
            x.untell(0);
            DUE.is("restore()", x.restore(), 6);
        }
        RopeTreaty twin = Edges.busy();
        twin.image();
        EDGES.alike("restored thrice", x, twin, 0);
    }

    /** "BEAT": 0, too. */
    private static void p36_beatZero() {
        RopeTreaty x = new RopeTreaty();
        x.image();
        x.beats(9);
        DUE.is("restore()", x.restore(), 0);
        DUE.is("count(2)", x.count(2), 0);
    }

    // ---- promise 37

    /** "how many": 1 to 24. */
    private static void p37_oneTo24Wait() {
        RopeTreaty x = new RopeTreaty();
        for (int i = 1; i <= 24; i++) {
            DUE.is("tell", x.tell(i), i);
            DUE.is("count(9)", x.count(9), i);
        }
    }

    /** "FULL: 24 wait". */
    private static void p37_fullIf24Wait() {
        EDGES.refused("tell(0)", EdgesOfImagesTest::waitingFull, x -> x.tell(0), Due.FULL);
    }

    /** "FULL: 24 wait": behind check() none does. */
    private static void p37_roomAgainBehindCheck() {
        RopeTreaty x = waitingFull();
        x.check();
        DUE.is("tell(0)", x.tell(0), 1);
    }

    /** "One more number": any is. */
    private static void p37_anyNumberWaits() {
        RopeTreaty x = withBreaths(50);
        int[] any = {Edges.MIN, -1000000001, -1, 0, 99, 100, Edges.MAX};
        for (int v : any) {
            DUE.is("tell(" + v + ")", x.tell(v), 1);
            DUE.is("no BREATH of 50", x.check(), 1);
        }
    }

    // ---- promise 38

    /** "The numbers that wait (none do then)": if none does, 0. */
    private static void p38_noneWaits() {
        EDGES.unchanged("check()", EdgesOfImagesTest::nothingWaits, x -> x.check(), 0);
        EDGES.unchanged("check(), no JUMPERS", Edges::fresh, x -> x.check(), 0);
    }

    /** "none do then": whether they are right or not; that changes nothing else. */
    private static void p38_noneDoThen() {
        RopeTreaty x = Edges.busy();
        DUE.is("check()", x.check(), 0);
        DUE.is("count(9)", x.count(9), 0);
        EDGES.alike("right", x, nothingWaits(), 0);
        RopeTreaty y = nothingWaits();
        y.tell(-5);
        DUE.is("check()", y.check(), 1);
        DUE.is("count(9)", y.count(9), 0);
        EDGES.alike("wrong", y, nothingWaits(), 0);
    }

    /** "are BREATH of JUMPERS 0, 1, ..: 0": 0 and 99 are; of six all six, or fewer. */
    private static void p38_right() {
        RopeTreaty x = withBreaths(0, 99, 7, 8, 9, 10);
        tell(x, 0, 99, 7, 8, 9, 10);
        DUE.is("six", x.check(), 0);
        tell(x, 0);
        DUE.is("one", x.check(), 0);
        tell(x, 0, 99);
        DUE.is("two", x.check(), 0);
    }

    /** "else 1 and the place (from 0) of the first that isn't so". */
    private static void p38_theFirstThatIsNotSo() {
        for (int wrong = 0; wrong < 6; wrong++) {
            RopeTreaty x = withBreaths(20, 21, 22, 23, 24, 25);
            for (int i = 0; i < 6; i++) {
                x.tell(i >= wrong ? 19 + i : 20 + i);
            }
            DUE.is("from " + wrong + " on", x.check(), 1 + wrong);
        }
    }

    /** "(or for which there is no JUMPER)": of none, of one, of six. */
    private static void p38_noJumper() {
        for (int n = 0; n <= 6; n++) {
            RopeTreaty x = withBreaths(new int[n]);
            for (int i = 0; i < 24; i++) {
                x.tell(0);
            }
            DUE.is("24 of 0, JUMPERS " + n, x.check(), 1 + n);
            for (int i = 0; i <= n; i++) {
                x.tell(0);
            }
            DUE.is("one too many", x.check(), 1 + n);
        }
    }

    // ---- promise 39

    /** "0 .. 11", else "BEYOND". */
    private static void p39_whatIs0To11() {
        EDGES.outside("count", Edges::busy, (x, v) -> x.count(v), 0, 11);
    }

    /** "1 who is IN, as a set": none, each alone, all six. */
    private static void p39_whoIsIn() {
        RopeTreaty x = withBreaths(50, 50, 50, 50, 50, 50);
        DUE.is("none", x.count(1), 0);
        for (int j = 0; j < 6; j++) {
            x.jump(j, 1);
            DUE.is(j + " alone", x.count(1), 1 << j);
            x.jump(j, 0);
        }
        for (int j = 0; j < 6; j++) {
            x.jump(j, 1);
        }
        DUE.is("all", x.count(1), 63);
    }

    /** "3 THE TREATY (-1: none)". */
    private static void p39_noTreaty() {
        EDGES.unchanged("count(3)", Edges::fresh, x -> x.count(3), -1);
        EDGES.unchanged("count(3)", Edges::busy, x -> x.count(3), 44);
    }

    /** "11 z (any number)": that is no ERROR. */
    private static void p39_zIsAnyNumber() {
        RopeTreaty x = new RopeTreaty();
        for (int v : new int[] {Edges.MIN, -1000000006, -1000000001, -1, 0, Edges.MAX}) {
            x.seed(v);
            DUE.is("count(11)", x.count(11), v);
        }
        for (int k = 1; k <= 6; k++) {
            DUE.is("told(" + k + ")", x.told(k), 0);
        }
    }

    /** "count": each of the twelve changes nothing. */
    private static void p39_countChangesNothing() {
        int[] due = {5, 19, 6, 44, 1, 93, 70, 21, 5, 2, 5, -7};
        for (int what = 0; what < due.length; what++) {
            int asked = what;
            EDGES.unchanged("count(" + what + ")", Edges::busy, x -> x.count(asked), due[what]);
        }
    }

    // ---- promise 40

    /** "(k 1 .. 6)", "BEYOND: another k (counted, too)". */
    private static void p40_kIs1To6() {
        EDGES.outside("told", Edges::busy, (x, v) -> x.told(v), 1, 6);
        EDGES.outside("told of a new object", Edges::fresh, (x, v) -> x.told(v), 1, 6);
    }

    /** "(counted, too)": the next told(1) has it. */
    private static void p40_anotherKIsCounted() {
        RopeTreaty x = new RopeTreaty();
        for (int i = 1; i <= 5; i++) {
            DUE.is("told(0)", x.told(0), Due.BEYOND);
            DUE.is("told(1)", x.told(1), i);
        }
    }

    /** "How many acts have answered an ERROR LOW - k": each of the six by itself. */
    private static void p40_eachErrorByItself() {
        for (int k = 1; k <= 6; k++) {
            RopeTreaty x = withBreaths(50);
            for (int i = 1; i <= 3; i++) {
                DUE.is("answers " + k, oneError(x, k), -1000000000 - k);
                for (int e = 1; e <= 6; e++) {
                    DUE.is("told(" + e + ") behind " + k, x.told(e), e == k ? i : 0);
                }
            }
        }
    }

    private static int oneError(RopeTreaty x, int k) {
        switch (k) {
            case 1: return x.beats(0);
            case 2: return x.restore();
            case 3: return x.lasts(0);
            case 4: return overfull(x);
            case 5: return x.as(0, 1);
            default: return x.voice(0, 3, 1);
        }
    }

    private static int overfull(RopeTreaty x) {
        while (x.count(9) < 24) {
            x.tell(0);
        }
        return x.tell(0);
    }

    /** "How many acts": a FAULT, and what is not TAKEN, are none. */
    private static void p40_whatIsNoError() {
        RopeTreaty x = withBreaths(50);
        x.text(0);
        x.jump(0, 1);
        x.bar(99);
        x.talk(0, 0);
        x.agree(0);
        x.tell(1);
        x.check();
        x.sheet(0, 32, 1);
        x.put(0, 0, -1);
        x.breaths(0);
        for (int k = 1; k <= 6; k++) {
            DUE.is("told(" + k + ")", x.told(k), 0);
        }
    }

    /** "told": k 1 .. 6 are asked without a change. */
    private static void p40_toldChangesNothing() {
        for (int k = 1; k <= 6; k++) {
            int asked = k;
            EDGES.unchanged("told(" + k + ")", Edges::busy, x -> x.told(asked), 0);
        }
    }
}
