/** Promises 28 and 29: voices and the trace. */
public final class VoicesTest {
    private static final Due DUE = new Due("VoicesTest");

    public static void main(String[] args) {
        voices();
        wrap();
        parted();
        edges();
        DUE.end();
    }

    private static void trace(String call, RopeTreaty x, int... bodies) {
        DUE.is(call + " count(10)", x.count(10), bodies.length);
        for (int i = 0; i < bodies.length; i++) {
            DUE.is(call + " body(" + i + ")", x.body(i), bodies[i]);
        }
        DUE.is(call + " body(" + bodies.length + ")", x.body(bodies.length), Due.NONE);
        DUE.is(call + " body(-1)", x.body(-1), Due.NONE);
    }

    /** Jumper 2, of m 7, is the one who speaks. */
    private static RopeTreaty yard(int kind) {
        RopeTreaty x = new RopeTreaty();
        x.jumper(0, 0, 0);
        x.jumper(0, 0, 0);
        x.jumper(10 * kind + 7, 0, 0);
        return x;
    }

    private static void voices() {
        // By kinds, voices 0 .. 3 of x 10: sings 12, jumps 24, claps 17, parts 10 / 5 of a jumper.
        int[][] due = {{12, 24, 17, 2}, {8, 16, 9, 0}, {12, -24, -31, 2}, {12, 24, 7, 2}, {24, 48, 43, 2 + -6},
            {12, -26, -33, 2}, {9, 25, 18, 2}};
        int[][][] traces = {
            {{10}, {11, 10}, {12, 11, 10}, {13}},
            {{20, 10}, {11, 20, 10}, {12, 11, 20, 10}, {21, 13, 11, 20, 10}},
            {{10}, {30, 11, 10}, {12, 30, 11, 10}, {13}},
            {{10}, {11, 10}, {40, 12, 11, 10}, {13}},
            {{50, 20, 10}, {11, 50, 20, 10}, {51, 12, 11, 50, 20, 10}, {21, 13, 11, 50, 20, 10}},
            {{10}, {60, 30, 11, 10}, {12, 60, 30, 11, 10}, {13}},
            {{70}, {71, 11, 70}, {12, 71, 11, 70}, {13}}};
        for (int kind = 0; kind < 7; kind++) {
            RopeTreaty x = yard(kind);
            for (int voice = 0; voice < 4; voice++) {
                String call = "voice " + voice + " of kind " + kind;
                DUE.is(call, x.voice(2, voice, 10), due[kind][voice]);
                trace(call, x, traces[kind][voice]);
            }
        }
    }

    private static void wrap() {
        RopeTreaty x = yard(0);
        int max = Integer.MAX_VALUE;
        int min = Integer.MIN_VALUE;
        DUE.is("sings wraps", x.voice(2, 0, max), min + 1);
        DUE.is("jumps wraps", x.voice(2, 1, max), 2);
        DUE.is("any number", x.voice(2, 0, -1000000003), Due.BEYOND);
        DUE.is("any number is no ERROR", x.told(1), 0);
        DUE.is("parts is cut", x.voice(2, 3, -9), -1);
        x.become(2, 1);
        DUE.is("parts by -1", x.voice(2, 3, 8), -8);
        DUE.is("parts of the least by -1", x.voice(2, 3, min), min);
        x.become(2, 30);
        DUE.is("claps of half a child, cut", x.voice(2, 2, -3), 2);
        x.become(2, 57);
        DUE.is("runner at the greatest", x.voice(2, 1, max), 0 - 2 * (min + 2));
        x.become(2, 47);
        DUE.is("bailiff claps below 0", x.voice(2, 2, -10), (-10 + 2 - 4) * 3 * 2 - 7 ^ 2);
    }

    private static void parted() {
        RopeTreaty x = yard(0);
        x.voice(2, 1, 5);
        x.become(2, 2);
        DUE.is("parts by 0", x.voice(2, 3, 5), Due.PARTED);
        trace("parts by 0", x, 13);
        x.become(2, 12);
        DUE.is("a master's by 0", x.voice(2, 3, 5), Due.PARTED);
        // As the BODIES began: what stands behind the parting does not begin.
        trace("a master's by 0", x, 21, 13);
        DUE.is("he still sings", x.voice(2, 0, 5), 3);
        DUE.is("told PARTED", x.told(6), 2);
    }

    private static void edges() {
        RopeTreaty x = yard(0);
        x.voice(2, 1, 5);
        DUE.is("voice 4", x.voice(2, 4, 5), Due.BEYOND);
        DUE.is("voice -1", x.voice(2, -1, 5), Due.BEYOND);
        DUE.is("jumper 3", x.voice(3, 0, 5), Due.BEYOND);
        DUE.is("jumper -1", x.voice(-1, 0, 5), Due.BEYOND);
        trace("behind BEYOND", x, 11, 10);
        DUE.is("body of the greatest", x.body(Integer.MAX_VALUE), Due.NONE);
        DUE.is("body of the least", x.body(Integer.MIN_VALUE), Due.NONE);
        DUE.is("body 30", x.body(30), Due.NONE);
    }
}
