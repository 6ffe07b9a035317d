/** Promises 16 to 18: beats, beats by draws, the seed. */
public final class BeatsTest {
    private static final Due DUE = new Due("BeatsTest");

    public static void main(String[] args) {
        beats();
        breath();
        costsAsTheBeatBegins();
        stillRope();
        edgesOfBeats();
        loose();
        looseDraws();
        looseTalk();
        seed();
        DUE.end();
    }

    private static void state(String when, RopeTreaty x, int set, int beat, int misses, int arm) {
        DUE.is(when + ": in", x.count(1), set);
        DUE.is(when + ": beat", x.count(2), beat);
        DUE.is(when + ": misses", x.count(4), misses);
        DUE.is(when + ": arm 0", x.count(5), arm);
        DUE.is(when + ": arm 1", x.count(6), arm);
    }

    private static void beats() {
        RopeTreaty x = new RopeTreaty();
        x.jumper(0, 3, 0);
        x.jump(0, 1);
        int[] breath = {2, 0, 0, 1, 2};
        int[] missed = {0, 0, 1, 0, 0};
        for (int i = 0; i < breath.length; i++) {
            DUE.is("beat " + i, x.beats(1), missed[i]);
            DUE.is("breath at " + i, x.jumperIs(0, 2), breath[i]);
            state("beat " + i, x, i < 2 ? 1 : 0, i + 1, i < 2 ? 0 : 1, 98 - i);
        }
        RopeTreaty y = new RopeTreaty();
        y.jumper(0, 3, 0);
        y.jumper(30, 1, 0);
        y.jump(0, 1);
        y.jump(1, 1);
        DUE.is("two miss in five", y.beats(5), 2);
        state("five", y, 0, 5, 2, 94);
        DUE.is("breath of 0", y.jumperIs(0, 2), 2);
        DUE.is("breath of 1", y.jumperIs(1, 2), 3);
    }

    private static void breath() {
        RopeTreaty x = new RopeTreaty();
        x.jumper(0, 98, 0);
        x.beats(1);
        DUE.is("98 and 1", x.jumperIs(0, 2), 99);
        x.beats(1);
        DUE.is("99 at most", x.jumperIs(0, 2), 99);
        x.jump(0, 1);
        x.rest(0, 3);
        DUE.is("just enough breath", x.beats(1), 0);
        DUE.is("none is left", x.jumperIs(0, 2), 0);
        Due.text(x, 0, "0");
        DUE.is("a beat that costs nothing", x.beats(9), 0);
        DUE.is("he is still in", x.jumperIs(0, 4), 1);
    }

    private static void costsAsTheBeatBegins() {
        RopeTreaty x = new RopeTreaty();
        x.jumper(0, 0, 0);
        x.jumper(40, 10, 0);
        x.jump(0, 1);
        x.jump(1, 1);
        DUE.is("one misses", x.beats(1), 1);
        DUE.is("it cost the bailiff 4", x.jumperIs(1, 2), 6);
        RopeTreaty y = new RopeTreaty();
        y.jumper(0, 0, 0);
        y.jumper(0, 10, 0);
        y.jump(0, 1);
        y.jump(1, 1);
        Due.text(y, 0, "c+p+b");
        DUE.is("one misses, by a text", y.beats(1), 1);
        DUE.is("it cost 3", y.jumperIs(1, 2), 7);
    }

    private static void stillRope() {
        RopeTreaty x = new RopeTreaty();
        x.jumper(0, 5, 0);
        x.jumper(0, 0, 0);
        x.jump(1, 1);
        x.spell(0, 0);
        DUE.is("nobody misses", x.beats(3), 0);
        DUE.is("in", x.count(1), 2);
        DUE.is("breath", x.jumperIs(0, 2), 5);
        DUE.is("arm 0", x.count(5), 0);
        DUE.is("arm 1", x.count(6), 99);
        DUE.is("beat", x.count(2), 3);
        x.spell(0, 2);
        x.jump(1, 0);
        x.beats(9);
        DUE.is("two beats turned", x.jumperIs(0, 2), 7);
        DUE.is("arm 0 then", x.count(5), 0);
        DUE.is("arm 1 then", x.count(6), 97);
        DUE.is("beat then", x.count(2), 12);
    }

    private static void edgesOfBeats() {
        RopeTreaty x = new RopeTreaty();
        DUE.is("beats(0)", x.beats(0), Due.BEYOND);
        DUE.is("beats(-1)", x.beats(-1), Due.BEYOND);
        DUE.is("beats(100)", x.beats(100), Due.BEYOND);
        DUE.is("no beat went by", x.count(2), 0);
        DUE.is("beats(99)", x.beats(99), 0);
        state("99 beats", x, 0, 99, 0, 0);
        for (int i = 0; i < 500; i++) {
            x.beats(99);
        }
        DUE.is("beat", x.count(2), 501 * 99);
    }

    private static void loose() {
        RopeTreaty x = new RopeTreaty();
        DUE.is("loose(0)", x.loose(0), Due.BEYOND);
        DUE.is("loose(31)", x.loose(31), Due.BEYOND);
        DUE.is("loose(-1)", x.loose(-1), Due.BEYOND);
        DUE.is("loose, no jumpers", x.loose(30), 0);
        DUE.is("no draws", x.count(11), 1);
        state("30 by draws", x, 0, 30, 0, 69);
    }

    private static void looseDraws() {
        // From 1: 1103527590 gives 4310654, -1770082073 (2524885223) gives 9862832, 48 by 64.
        RopeTreaty x = new RopeTreaty();
        x.jumper(0, 50, 0);
        x.bar(0);
        DUE.is("taken", x.loose(1), 1);
        DUE.is("z", x.count(11), -1770082073);
        DUE.is("the treaty", x.count(3), 48);
        DUE.is("he is in", x.count(1), 1);
        DUE.is("and jumped", x.jumperIs(0, 2), 49);
        // 4310654 by 4 leaves 2.
        RopeTreaty y = new RopeTreaty();
        for (int i = 0; i < 4; i++) {
            y.jumper(0, 50, 0);
        }
        DUE.is("a bar of 30", y.loose(1), 0);
        DUE.is("the third is in", y.count(1), 4);
        DUE.is("no treaty", y.count(3), -1);
    }

    private static void looseTalk() {
        RopeTreaty x = Due.beaten(3);
        x.jumper(0, 50, 0);
        x.bar(0);
        DUE.is("no talk at pepper", x.loose(1), 0);
        DUE.is("he is in, though", x.count(1), 1);
        DUE.is("no treaty", x.count(3), -1);
        DUE.is("three of four", x.loose(4), 3);
        RopeTreaty y = new RopeTreaty();
        y.jumper(0, 50, 0);
        y.bar(0);
        y.spell(1, 0);
        DUE.is("a still rope", y.loose(3), 0);
        DUE.is("he is not in", y.count(1), 0);
        y.spell(1, 9);
        y.jump(0, 1);
        y.spell(1, 0);
        DUE.is("in a still rope", y.loose(3), 0);
        DUE.is("beat", y.count(2), 6);
    }

    private static void seed() {
        RopeTreaty x = new RopeTreaty();
        DUE.is("seed", x.seed(-1000000001), 1);
        DUE.is("seed again", x.seed(Integer.MAX_VALUE), -1000000001);
        DUE.is("z", x.count(11), Integer.MAX_VALUE);
        DUE.is("no ERROR", x.told(1), 0);
    }
}
