/** The edges that promises 16 to 18 name: beats, beats by draws, the seed. */
public final class EdgesOfBeatsTest {
    private static final Due DUE = new Due("EdgesOfBeatsTest");
    private static final Edges EDGES = new Edges(DUE);

    public static void main(String[] args) {
        Edges.run(EdgesOfBeatsTest.class, DUE);
    }

    /** One JUMPER who rests, in a rope that TURNS, at a BEAT that 512 calls do not reach. */
    private static RopeTreaty late(int beats) {
        RopeTreaty x = Due.beaten(beats);
        x.jumper(0, 50, 0);
        x.spell(0, 99);
        x.spell(1, 99);
        return x;
    }

    private static RopeTreaty at99900() {
        return late(99900);
    }

    // ---- promise 16

    /** "n (1 .. 99) BEATS", else "BEYOND". */
    private static void p16_nIs1To99() {
        EDGES.outside("beats", Edges::busy, (x, v) -> x.beats(v), 1, 99);
    }

    /** "n (1 .. 99) BEATS go by": one, and 99. */
    private static void p16_oneAndNinetyNineGoBy() {
        RopeTreaty x = new RopeTreaty();
        x.jumper(30, 99, 0);
        x.jump(0, 1);
        DUE.is("beats(1)", x.beats(1), 0);
        DUE.is("BEAT", x.count(2), 1);
        DUE.is("BREATH", x.jumperIs(0, 2), 98);
        x.spell(0, 99);
        x.spell(1, 99);
        DUE.is("beats(99)", x.beats(99), 1);
        DUE.is("BEAT", x.count(2), 100);
        DUE.is("ARM 0", x.count(5), 0);
        DUE.is("ARM 1", x.count(6), 0);
    }

    /** "how many MISSED": nobody without JUMPERS. */
    private static void p16_nobodyMissesWithoutJumpers() {
        RopeTreaty x = new RopeTreaty();
        DUE.is("beats(99)", x.beats(99), 0);
        DUE.is("MISSES", x.count(4), 0);
    }

    /** "how many MISSED": in these BEATS alone, not what MISSES were ahead. */
    private static void p16_missedInTheseBeatsAlone() {
        RopeTreaty x = new RopeTreaty();
        x.jumper(0, 0, 0);
        x.jumper(0, 1, 0);
        x.jump(0, 1);
        x.jump(1, 1);
        DUE.is("the first", x.beats(1), 1);
        DUE.is("the second", x.beats(1), 1);
        DUE.is("nobody", x.beats(9), 0);
        DUE.is("MISSES", x.count(4), 2);
    }

    /** "BEYOND. STATE: BEAT would be above 99999". 512 calls do not reach it; this one class keeps to it there, too. */
    private static void p16_stateBeyond99999() {
        DUE.is("99900 and 99", late(99900).beats(99), 0);
        DUE.is("99901 and 99", late(99901).beats(99), Due.STATE);
        DUE.is("99901 and 98", late(99901).beats(98), 0);
        DUE.is("99998 and 1", late(99998).beats(1), 0);
        EDGES.refused("99999 and 1", () -> late(99999), x -> x.beats(1), Due.STATE);
        EDGES.refused("99950 and 99", () -> late(99950), x -> x.beats(99), Due.STATE);
        RopeTreaty x = at99900();
        x.beats(99);
        DUE.is("BEAT", x.count(2), 99999);
    }

    /** "BEYOND. STATE": in this order. */
    private static void p16_beyondIsAskedAheadOfState() {
        EDGES.refused("beats(100) at 99999", () -> late(99999), x -> x.beats(100), Due.BEYOND);
        EDGES.refused("beats(0) at 99999", () -> late(99999), x -> x.beats(0), Due.BEYOND);
        EDGES.refused("beats of the greatest int", () -> late(99999), x -> x.beats(Edges.MAX), Due.BEYOND);
    }

    // ---- promise 17

    /** "n (1 .. 30) BEATS BY DRAWS", else "BEYOND". */
    private static void p17_nIs1To30() {
        EDGES.outside("loose", Edges::busy, (x, v) -> x.loose(v), 1, 30);
    }

    /** "n (1 .. 30) BEATS BY DRAWS": one is two draws, thirty are sixty. */
    private static void p17_oneAndThirtyGoBy() {
        for (int n : new int[] {1, 2, 30}) {
            RopeTreaty x = new RopeTreaty();
            x.jumper(0, 50, 0);
            x.loose(n);
            int z = 1;
            for (int draw = 0; draw < 2 * n; draw++) {
                z = z * 1103515245 + 12345;
            }
            DUE.is("z behind " + n, x.count(11), z);
            DUE.is("BEAT behind " + n, x.count(2), n);
        }
    }

    /** "how often a TREATY was taken": never, and at every BEAT but PEPPER. */
    private static void p17_howOftenTaken() {
        RopeTreaty x = new RopeTreaty();
        x.jumper(30, 99, 0);
        DUE.is("no JUMPER LIKES so much", x.bar(99), 30);
        DUE.is("loose(30)", x.loose(30), 0);
        DUE.is("THE TREATY", x.count(3), -1);
        RopeTreaty y = new RopeTreaty();
        y.jumper(30, 99, 0);
        y.bar(40);
        DUE.is("loose(30), 7 of them at PEPPER", y.loose(30), 23);
    }

    /** "how often a TREATY was taken": none without JUMPERS. */
    private static void p17_noneWithoutJumpers() {
        RopeTreaty x = new RopeTreaty();
        x.bar(0);
        DUE.is("loose(30)", x.loose(30), 0);
        DUE.is("THE TREATY", x.count(3), -1);
        DUE.is("BEAT", x.count(2), 30);
    }

    /** "STATE: BEAT would be above 99999". 512 calls do not reach it; this one class keeps to it there, too. */
    private static void p17_stateBeyond99999() {
        DUE.is("99969 and 30", late(99969).loose(30) >= 0 ? 1 : 0, 1);
        DUE.is("99970 and 30", late(99970).loose(30), Due.STATE);
        DUE.is("99998 and 1", late(99998).loose(1) >= 0 ? 1 : 0, 1);
        EDGES.refused("99999 and 1", () -> late(99999), x -> x.loose(1), Due.STATE);
        EDGES.refused("99990 and 30", () -> late(99990), x -> x.loose(30), Due.STATE);
    }

    /** "BEYOND. STATE": in this order. */
    private static void p17_beyondIsAskedAheadOfState() {
        EDGES.refused("loose(31) at 99999", () -> late(99999), x -> x.loose(31), Due.BEYOND);
        EDGES.refused("loose(0) at 99999", () -> late(99999), x -> x.loose(0), Due.BEYOND);
        EDGES.refused("loose of the greatest int", () -> late(99999), x -> x.loose(Edges.MAX), Due.BEYOND);
    }

    // ---- promise 18

    /** "z becomes v": every int does, and changes nothing else. */
    private static void p18_everyIntMayBeZ() {
        int[] any = {Edges.MIN, -1000000006, -1000000001, -1, 0, 1, Edges.MAX};
        RopeTreaty x = Edges.busy();
        int was = -7;
        for (int v : any) {
            DUE.is("seed(" + v + ")", x.seed(v), was);
            DUE.is("count(11)", x.count(11), v);
            was = v;
        }
        x.seed(-7);
        EDGES.alike("seeds and back", x, Edges.busy(), 0);
    }

    /** "what it was (any number)": that is no ERROR. */
    private static void p18_whatItWasIsNoError() {
        RopeTreaty x = new RopeTreaty();
        for (int k = 1; k <= 6; k++) {
            x.seed(-1000000000 - k);
            DUE.is("seed", x.seed(0), -1000000000 - k);
        }
        for (int k = 1; k <= 6; k++) {
            DUE.is("told(" + k + ")", x.told(k), 0);
        }
    }
}
