/** Promises 35 to 40: images, what is told. */
public final class ImagesTest {
    private static final Due DUE = new Due("ImagesTest");

    public static void main(String[] args) {
        image();
        whatIsNotKept();
        imageOfImages();
        tell();
        check();
        count();
        told();
        DUE.end();
    }

    private static RopeTreaty busy() {
        RopeTreaty x = new RopeTreaty();
        x.beats(6);
        x.jumper(36, 50, 1);
        x.jumper(0, 0, 0);
        x.jump(0, 1);
        x.bar(20);
        x.talk(0, 0);
        x.jump(1, 1);
        x.rest(1, 0);
        x.beats(1);
        x.spell(1, 44);
        x.bar(41);
        Due.text(x, 0, "c+1");
        Due.text(x, 1, "l+1");
        x.feed(0x2B63L, 2);
        x.tell(49);
        x.tell(1);
        x.seed(-5);
        return x;
    }

    /** All that an image keeps, as one row. */
    private static int[] all(RopeTreaty x) {
        int[] row = new int[40];
        int at = 0;
        for (int what = 0; what < 12; what++) {
            row[at++] = what == 10 ? 0 : x.count(what);
        }
        for (int j = 0; j < 3; j++) {
            for (int what = 0; what < 6; what++) {
                row[at++] = x.jumperIs(j, what);
            }
        }
        row[at++] = x.law(0, 5, 0, 0);
        row[at++] = x.law(1, 5, 0, 0);
        return row;
    }

    private static void same(String when, RopeTreaty x, int[] want) {
        int[] got = all(x);
        for (int i = 0; i < want.length; i++) {
            DUE.is(when + ", number " + i, got[i], want[i]);
        }
    }

    private static void image() {
        RopeTreaty x = busy();
        DUE.is("nothing kept yet", x.restore(), Due.NONE);
        int[] then = all(x);
        DUE.is("image()", x.image(), 1);
        for (int round = 0; round < 2; round++) {
            x.jump(1, 1);
            x.rest(1, 0);
            x.beats(9);
            x.jumper(25, 9, 1);
            x.become(0, 12);
            x.rest(1, 77);
            x.jump(1, 1);
            x.bar(0);
            x.talk(1, 13);
            x.spell(0, 50);
            x.seed(33);
            x.text(0);
            x.untell(0);
            Due.text(x, 1, "7");
            x.tell(9);
            x.feed(0x31L, 1);
            DUE.is("restore()", x.restore(), 7);
            same("restored", x, then);
        }
        DUE.is("the tape as it was", x.feed(0x33L, 1), 3);
        DUE.is("its bytes, too", x.text(0), 1);
        DUE.is("c+3", x.law(0, 5, 0, 0), 8);
        x.restore();
        x.rest(0, 49);
        x.rest(1, 1);
        DUE.is("the numbers that wait, too", x.check(), 0);
        x.tell(7);
        x.tell(7);
        x.restore();
        DUE.is("they wait again", x.count(9), 2);
        x.rest(0, 49);
        x.rest(1, 1);
        DUE.is("as they were", x.check(), 0);
    }

    private static void whatIsNotKept() {
        RopeTreaty x = busy();
        x.sheet(0, 8, 2);
        x.voice(0, 1, 1);
        x.told(9);
        x.image();
        x.put(0, 1, 9);
        x.sheet(1, 8, 1);
        x.voice(0, 3, 1);
        x.told(9);
        x.restore();
        DUE.is("sheets stay", x.breaths(0), 2);
        DUE.is("number 1 stays", x.jumperIs(1, 2), 9);
        DUE.is("sheet 1 stays", x.put(1, 0, 0), 1);
        DUE.is("the trace stays", x.count(10), 1);
        DUE.is("body 13", x.body(0), 13);
        DUE.is("what told() tells stays", x.told(1), 2);
        DUE.is("how often stays", x.image(), 2);
    }

    private static void imageOfImages() {
        RopeTreaty x = new RopeTreaty();
        x.image();
        x.jumper(0, 5, 0);
        x.beats(3);
        DUE.is("in place of one ahead", x.image(), 2);
        x.beats(3);
        DUE.is("the later one", x.restore(), 3);
        DUE.is("with its jumper", x.count(0), 1);
        DUE.is("told NONE", x.told(2), 0);
        RopeTreaty y = new RopeTreaty();
        y.image();
        y.jumper(0, 5, 0);
        Due.text(y, 0, "9");
        y.tell(4);
        DUE.is("back to nothing", y.restore(), 0);
        DUE.is("no jumpers", y.count(0), 0);
        DUE.is("no text", y.untell(0), 0);
        DUE.is("no numbers", y.count(9), 0);
        y.jumper(0, 5, 1);
        DUE.is("a new one is not in", y.jumperIs(0, 4), 0);
    }

    private static void tell() {
        RopeTreaty x = new RopeTreaty();
        for (int i = 1; i <= 24; i++) {
            DUE.is("tell", x.tell(-1000000001), i);
        }
        DUE.is("24 wait", x.tell(0), Due.FULL);
        DUE.is("still 24", x.count(9), 24);
        DUE.is("told FULL", x.told(4), 1);
        DUE.is("check", x.check(), 1);
        DUE.is("none wait", x.count(9), 0);
        DUE.is("tell again", x.tell(0), 1);
    }

    private static void check() {
        RopeTreaty x = new RopeTreaty();
        x.tell(0);
        DUE.is("no jumper", x.check(), 1);
        x.jumper(0, 5, 0);
        x.jumper(0, 6, 0);
        x.tell(5);
        DUE.is("one of two", x.check(), 0);
        x.tell(5);
        x.tell(6);
        DUE.is("both", x.check(), 0);
        x.tell(5);
        x.tell(7);
        x.tell(7);
        DUE.is("the second is wrong", x.check(), 2);
        DUE.is("none wait", x.count(9), 0);
        x.tell(5);
        x.tell(6);
        x.tell(0);
        DUE.is("a third has no jumper", x.check(), 3);
        DUE.is("breath stays", x.jumperIs(1, 2), 6);
    }

    private static void count() {
        RopeTreaty x = new RopeTreaty();
        DUE.is("count(12)", x.count(12), Due.BEYOND);
        DUE.is("count(-1)", x.count(-1), Due.BEYOND);
        RopeTreaty y = busy();
        int[] due = {2, 1, 7, 0, 1, 92, 44, 41, 2, 2, 0, -5};
        for (int what = 0; what < 12; what++) {
            DUE.is("busy count(" + what + ")", y.count(what), due[what]);
        }
        for (int j = 0; j < 2; j++) {
            x.jumper(0, 0, 0);
        }
        x.jump(1, 1);
        DUE.is("the second alone", x.count(1), 2);
        x.seed(-1000000001);
        DUE.is("any number", x.count(11), -1000000001);
        DUE.is("it is no ERROR", x.told(1), 2);
    }

    private static void told() {
        RopeTreaty x = new RopeTreaty();
        DUE.is("told(0)", x.told(0), Due.BEYOND);
        DUE.is("told(7)", x.told(7), Due.BEYOND);
        DUE.is("told(-1)", x.told(-1), Due.BEYOND);
        DUE.is("those are counted, too", x.told(1), 3);
        x.jumper(0, 0, 0);
        x.restore();
        x.lasts(0);
        x.as(0, 1);
        x.voice(0, 3, 1);
        for (int i = 0; i < 25; i++) {
            x.tell(i);
        }
        int[] due = {3, 1, 1, 1, 1, 1};
        for (int k = 1; k <= 6; k++) {
            DUE.is("told(" + k + ")", x.told(k), due[k - 1]);
        }
    }
}
