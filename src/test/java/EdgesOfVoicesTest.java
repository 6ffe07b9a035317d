/** The edges that promises 28 and 29 and section 4 of the Terms name: VOICES, BODIES, THE TRACE. */
public final class EdgesOfVoicesTest {
    private static final Due DUE = new Due("EdgesOfVoicesTest");
    private static final Edges EDGES = new Edges(DUE);
    private static final int SINGS = 0;
    private static final int JUMPS = 1;
    private static final int CLAPS = 2;
    private static final int PARTS = 3;

    public static void main(String[] args) {
        Edges.run(EdgesOfVoicesTest.class, DUE);
    }

    /** The last of k + 1 JUMPERS is of this km. */
    private static RopeTreaty speaker(int k, int km) {
        RopeTreaty x = new RopeTreaty();
        for (int j = 0; j <= k; j++) {
            x.jumper(km, 0, 0);
        }
        return x;
    }

    private static void trace(String when, RopeTreaty x, int... bodies) {
        DUE.is(when + ", count(10)", x.count(10), bodies.length);
        for (int i = 0; i < bodies.length; i++) {
            DUE.is(when + ", body(" + i + ")", x.body(i), bodies[i]);
        }
        DUE.is(when + ", body(" + bodies.length + ")", x.body(bodies.length), Due.NONE);
    }

    // ---- promise 28

    /** "a JUMPER": else "BEYOND"; THE TRACE stays. */
    private static void p28_jumperIsOneThatThereIs() {
        EDGES.outside("voice, jumper", Edges::busy, (x, v) -> x.voice(v, SINGS, 5), 0, 4);
    }

    /** "A VOICE" (0 .. 3): else "BEYOND"; THE TRACE stays. */
    private static void p28_voiceIs0To3() {
        EDGES.outside("voice, voice", Edges::busy, (x, v) -> x.voice(4, v, 5), 0, 3);
    }

    /** "any number": also one that would be an ERROR, which is not told. */
    private static void p28_anyNumber() {
        RopeTreaty x = speaker(0, 7);
        for (int k = 1; k <= 6; k++) {
            DUE.is("sings", x.voice(0, SINGS, -1000000000 - k), -1000000000 - k);
        }
        for (int k = 1; k <= 6; k++) {
            DUE.is("told(" + k + ")", x.told(k), 0);
        }
    }

    /** "PARTED if that is 0" (m - k): of every KIND, and not of an m beside k. */
    private static void p28_partedIfMIsTheNumber() {
        for (int kind = 0; kind <= 6; kind++) {
            for (int k = 0; k < 6; k++) {
                for (int m = 0; m <= 9; m++) {
                    RopeTreaty x = speaker(k, 10 * kind + m);
                    boolean parted = x.voice(k, PARTS, 1) == Due.PARTED && x.told(6) == 1;
                    DUE.is("KIND " + kind + ", number " + k + ", m " + m, parted ? 1 : 0, m == k ? 1 : 0);
                }
            }
        }
    }

    /** "PARTED if that is 0": whatever x is, 0 and the least int, too. */
    private static void p28_partedWhateverXIs() {
        for (int v : new int[] {Edges.MIN, -1, 0, 1, Edges.MAX}) {
            DUE.is("parts of " + v, speaker(2, 2).voice(2, PARTS, v), Due.PARTED);
            DUE.is("a MASTER's of " + v, speaker(2, 12).voice(2, PARTS, v), Due.PARTED);
        }
    }

    /** "that is all that voice() answers then": a MASTER's jumps(1) is not added. */
    private static void p28_partedIsAllThatIsAnswered() {
        RopeTreaty x = speaker(1, 41);
        DUE.is("a BAILIFF's parts", x.voice(1, PARTS, 100), Due.PARTED);
        DUE.is("told(6)", x.told(6), 1);
    }

    /**
     * "THE TRACE: the numbers of BODIES of the latest voice(), as they began": also of one that is PARTED; what would
     * have begun behind that did not. All else is unchanged, but for what told() tells.
     */
    private static void p28_partedChangesTheTraceAlone() {
        RopeTreaty x = Edges.busy();
        RopeTreaty twin = Edges.busy();
        x.become(3, 3);
        twin.become(3, 3);
        DUE.is("voice(3, 3, 8)", x.voice(3, PARTS, 8), Due.PARTED);
        DUE.is("another one's, by 5, is not", twin.voice(0, PARTS, 8), 1);
        EDGES.alike("PARTED", x, twin, 6);
    }

    /** ".. as they began": a MASTER's 21 and 13, no jumps. */
    private static void p28_partedOfAMaster() {
        RopeTreaty x = speaker(2, 12);
        x.voice(2, PARTS, 5);
        trace("PARTED", x, 21, 13);
        DUE.is("he still claps", x.voice(2, CLAPS, 5), 4);
        trace("claps", x, 12, 11, 20, 10);
    }

    /** "BEYOND. PARTED.": in this order. */
    private static void p28_beyondIsAskedAheadOfParted() {
        RopeTreaty x = speaker(0, 0);
        DUE.is("voice 4 of one who would be PARTED", x.voice(0, 4, 1), Due.BEYOND);
        DUE.is("parts of nobody", x.voice(1, PARTS, 1), Due.BEYOND);
        DUE.is("told(6)", x.told(6), 0);
    }

    // ---- section 4: ints that wrap, and what is cut

    /** "(ints that wrap)": 10 sings x + k. */
    private static void s4_singsWraps() {
        DUE.is("number 0", speaker(0, 9).voice(0, SINGS, Edges.MAX), Edges.MAX);
        DUE.is("number 1", speaker(1, 9).voice(1, SINGS, Edges.MAX), Edges.MIN);
        DUE.is("number 5", speaker(5, 9).voice(5, SINGS, Edges.MAX), Edges.MIN + 4);
    }

    /** "(ints that wrap)": 11 jumps: sings(x) * 2. */
    private static void s4_jumpsWraps() {
        DUE.is("the greatest", speaker(0, 9).voice(0, JUMPS, Edges.MAX), -2);
        DUE.is("the least", speaker(0, 9).voice(0, JUMPS, Edges.MIN), 0);
        DUE.is("half of the least", speaker(0, 9).voice(0, JUMPS, Edges.MIN / 2), Edges.MIN);
    }

    /** "(ints that wrap)": 12 claps: jumps(x) - m. */
    private static void s4_clapsWraps() {
        DUE.is("of the least, less 9", speaker(0, 9).voice(0, CLAPS, Edges.MIN / 2), Edges.MAX - 8);
    }

    /** "13 parts: x by (m - k), cut": the least by -1 wraps. */
    private static void s4_partsOfTheLeastByMinusOne() {
        DUE.is("by -1", speaker(1, 0).voice(1, PARTS, Edges.MIN), Edges.MIN);
        DUE.is("by 1", speaker(0, 1).voice(0, PARTS, Edges.MIN), Edges.MIN);
    }

    /** "13 parts: .. cut": to 0, from both sides, by a divisor below 0, too. */
    private static void s4_partsAreCut() {
        int[][] due = {{-10, -2}, {-9, -1}, {-5, -1}, {-4, 0}, {0, 0}, {4, 0}, {5, 1}, {9, 1}, {10, 2}};
        for (int[] d : due) {
            DUE.is(d[0] + " by 5", speaker(0, 5).voice(0, PARTS, d[0]), d[1]);
            DUE.is(d[0] + " by -5", speaker(5, 0).voice(5, PARTS, d[0]), -d[1]);
        }
    }

    /** "20 sings: super.sings(x) - 4", wrapping. */
    private static void s4_masterSingsWraps() {
        DUE.is("the least", speaker(0, 19).voice(0, SINGS, Edges.MIN), Edges.MAX - 3);
        DUE.is("the least and 4", speaker(0, 19).voice(0, SINGS, Edges.MIN + 4), Edges.MIN);
    }

    /** "21 parts: super.parts(x) + jumps(1)", wrapping; jumps is his own. */
    private static void s4_masterPartsWraps() {
        // jumps(1): (1 + 0 - 4) * 2 is -6 of a MASTER, (1 + 0 - 4) * 3 * 2 is -18 of a BAILIFF.
        DUE.is("a MASTER's", speaker(0, 11).voice(0, PARTS, Edges.MIN), Edges.MAX - 5);
        DUE.is("a BAILIFF's", speaker(0, 41).voice(0, PARTS, Edges.MIN), Edges.MAX - 17);
    }

    /** "30 jumps: 0 - super.jumps(x)": the least stays the least. */
    private static void s4_conJumpsWraps() {
        DUE.is("half of the least", speaker(0, 20).voice(0, JUMPS, Edges.MIN / 2), Edges.MIN);
        DUE.is("the greatest", speaker(0, 20).voice(0, JUMPS, Edges.MAX), 2);
        DUE.is("0", speaker(0, 20).voice(0, JUMPS, 0), 0);
    }

    /** "40 claps: super.claps(x / 2)": cut toward 0. */
    private static void s4_childClapsHalfCut() {
        int[][] due = {{-4, -4}, {-3, -2}, {-2, -2}, {-1, 0}, {0, 0}, {1, 0}, {2, 2}, {3, 2}, {4, 4}};
        for (int[] d : due) {
            DUE.is("claps of " + d[0], speaker(0, 30).voice(0, CLAPS, d[0]), d[1]);
        }
        DUE.is("claps of the least", speaker(0, 30).voice(0, CLAPS, Edges.MIN), Edges.MIN);
        DUE.is("claps of the greatest", speaker(0, 30).voice(0, CLAPS, Edges.MAX), Edges.MAX - 1);
    }

    /** "50 sings: super.sings(x) * 3", wrapping. */
    private static void s4_bailiffSingsWraps() {
        DUE.is("the greatest and 4", speaker(0, 49).voice(0, SINGS, Edges.MIN + 3), Edges.MAX - 2);
        DUE.is("0 by 3", speaker(0, 49).voice(0, SINGS, 4), 0);
    }

    /** "51 claps: super.claps(x) ^ k": of numbers below 0, too. */
    private static void s4_bailiffClapsBits() {
        // sings(x) is (x + 3 - 4) * 3; claps is twice that less m, then bits of 3.
        DUE.is("of 1", speaker(3, 41).voice(3, CLAPS, 1), -1 ^ 3);
        DUE.is("of 2", speaker(3, 41).voice(3, CLAPS, 2), 5 ^ 3);
        DUE.is("number 0", speaker(0, 40).voice(0, CLAPS, 5), 6);
    }

    /** "60 jumps: super.jumps(x + 1)", wrapping. */
    private static void s4_runnerJumpsWraps() {
        DUE.is("the greatest", speaker(0, 50).voice(0, JUMPS, Edges.MAX), 0);
        DUE.is("-1", speaker(0, 50).voice(0, JUMPS, -1), 0);
        DUE.is("0", speaker(0, 50).voice(0, JUMPS, 0), -2);
    }

    /** "70 sings: 9": whatever x and k are. */
    private static void s4_oldSingsNine() {
        for (int v : new int[] {Edges.MIN, -1, 0, 1, Edges.MAX}) {
            DUE.is("of " + v, speaker(5, 69).voice(5, SINGS, v), 9);
            DUE.is("jumps of " + v, speaker(5, 69).voice(5, JUMPS, v), 27);
        }
    }

    /** "sings(..) is the BODY of its KIND, or of the next KIND above that has one": under a KIND that has none, too. */
    private static void s4_theNextKindAboveThatHasOne() {
        int[][] singers = {{0, 10}, {1, 20}, {2, 10}, {3, 10}, {4, 50}, {5, 10}, {6, 70}};
        int[][] parters = {{0, 13}, {1, 21}, {2, 13}, {3, 13}, {4, 21}, {5, 13}, {6, 13}};
        for (int kind = 0; kind <= 6; kind++) {
            RopeTreaty x = speaker(0, 10 * kind + 5);
            x.voice(0, SINGS, 3);
            DUE.is("KIND " + kind + " sings", x.body(0), singers[kind][1]);
            x.voice(0, PARTS, 3);
            DUE.is("KIND " + kind + " parts", x.body(0), parters[kind][1]);
        }
    }

    /** "super.sings(..) that from the KIND above the BODY's on": a RUNNER's of CON, a BAILIFF's claps of JUMPER. */
    private static void s4_superIsFromTheKindAboveTheBodys() {
        RopeTreaty x = speaker(0, 55);
        x.voice(0, JUMPS, 3);
        trace("a RUNNER jumps", x, 60, 30, 11, 10);
        x.become(0, 45);
        x.voice(0, CLAPS, 3);
        trace("a BAILIFF claps", x, 51, 12, 11, 50, 20, 10);
        x.voice(0, SINGS, 3);
        trace("a BAILIFF sings", x, 50, 20, 10);
        x.become(0, 65);
        x.voice(0, CLAPS, 3);
        trace("an OLD claps", x, 12, 71, 11, 70);
    }

    /** "(what stands left is worked out first)": super.parts(x) ahead of jumps(1). */
    private static void s4_whatStandsLeftIsFirst() {
        RopeTreaty x = speaker(0, 15);
        x.voice(0, PARTS, 3);
        trace("a MASTER parts", x, 21, 13, 11, 20, 10);
    }

    // ---- promise 29 and THE TRACE

    /** "THE TRACE's i-th. NONE: there is none such": of a new object none is. */
    private static void p29_noneAtFirst() {
        for (int i : new int[] {Edges.MIN, -1, 0, 1, 29, 30, 31, Edges.MAX}) {
            EDGES.refused("body(" + i + ")", Edges::fresh, x -> x.body(i), Due.NONE);
        }
    }

    /** "THE TRACE's i-th": 0 the first, 4 the last of five; "NONE: there is none such". */
    private static void p29_firstAndLast() {
        EDGES.unchanged("body(0)", Edges::busy, x -> x.body(0), 12);
        EDGES.unchanged("body(4)", Edges::busy, x -> x.body(4), 10);
        for (int i : new int[] {Edges.MIN, -1, 5, 6, 29, 30, 31, Edges.MAX}) {
            EDGES.refused("body(" + i + ")", Edges::busy, x -> x.body(i), Due.NONE);
        }
    }

    /** "of the latest voice()": nothing of a longer one ahead is left. */
    private static void p29_ofTheLatestAlone() {
        RopeTreaty x = speaker(0, 45);
        x.voice(0, CLAPS, 3);
        x.become(0, 65);
        x.voice(0, SINGS, 3);
        trace("behind a longer one", x, 70);
    }

    /** "the first 30": no VOICE has as many BODIES; the longest has 6, and all are told. */
    private static void p29_allBodiesAreAmongTheFirst30() {
        int longest = 0;
        for (int kind = 0; kind <= 6; kind++) {
            for (int voice = 0; voice < 4; voice++) {
                RopeTreaty x = speaker(0, 10 * kind + 5);
                x.voice(0, voice, 3);
                longest = Math.max(longest, x.count(10));
                DUE.is("KIND " + kind + ", voice " + voice + ", the last", x.body(x.count(10) - 1) > 0 ? 1 : 0, 1);
            }
        }
        DUE.is("the longest", longest, 6);
    }

    /** "the numbers of BODIES of the latest voice()": beats, images and restore() leave THE TRACE. */
    private static void p29_traceStaysWithoutVoices() {
        RopeTreaty x = speaker(0, 55);
        x.image();
        x.voice(0, JUMPS, 3);
        x.beats(9);
        x.become(0, 0);
        x.restore();
        trace("as it was", x, 60, 30, 11, 10);
    }
}
