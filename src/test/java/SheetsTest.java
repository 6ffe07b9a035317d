/** Promises 30 to 34: sheets. */
public final class SheetsTest {
    private static final Due DUE = new Due("SheetsTest");
    private static final int MIN = Integer.MIN_VALUE;
    private static final int MAX = Integer.MAX_VALUE;

    public static void main(String[] args) {
        sheet();
        put();
        move();
        moveErrors();
        breaths();
        judge();
        DUE.end();
    }

    /** Three who do not jump: their breath shows what stands on a sheet. */
    private static RopeTreaty yard() {
        RopeTreaty x = new RopeTreaty();
        for (int i = 0; i < 6; i++) {
            x.jumper(0, 50, 0);
        }
        return x;
    }

    private static void row(String call, RopeTreaty x, int sheet, int... numbers) {
        DUE.is(call + " breaths", x.breaths(sheet), numbers.length);
        for (int i = 0; i < numbers.length; i++) {
            DUE.is(call + " number " + i, x.jumperIs(i, 2), numbers[i]);
        }
    }

    private static void sheet() {
        RopeTreaty x = yard();
        DUE.is("sheet(0, 8, 24)", x.sheet(0, 8, 24), 1);
        DUE.is("24 numbers", x.put(0, 23, 1), 1);
        DUE.is("no 25th", x.put(0, 24, 1), Due.BEYOND);
        DUE.is("sheet(3, 32, 3)", x.sheet(3, 32, 3), 1);
        row("all 0", x, 3, 0, 0, 0);
        x.put(3, 0, 7);
        DUE.is("sheet(3, 16, 2)", x.sheet(3, 16, 2), 1);
        row("all 0 again", x, 3, 0, 0);
        DUE.is("sheet(3, 0, -5)", x.sheet(3, 0, -5), 1);
        DUE.is("it is missing", x.put(3, 0, 1), Due.NONE);
        DUE.is("sheet(0, 0, 25)", x.sheet(0, 0, 25), 1);
        DUE.is("it is missing, too", x.breaths(0), Due.NONE);
        DUE.is("sheet 4", x.sheet(4, 8, 1), Due.BEYOND);
        DUE.is("sheet -1", x.sheet(-1, 8, 1), Due.BEYOND);
        DUE.is("sheet 4, n -1", x.sheet(4, 8, -1), Due.BEYOND);
        DUE.is("bits 64", x.sheet(0, 64, 1), Due.BEYOND);
        DUE.is("bits -8", x.sheet(0, -8, 1), Due.BEYOND);
        DUE.is("bits 7, n -1", x.sheet(0, 7, -1), Due.BEYOND);
        DUE.is("n -1", x.sheet(0, 8, -1), Due.STATE);
        DUE.is("n the least", x.sheet(0, 32, MIN), Due.STATE);
        DUE.is("n 25", x.sheet(0, 8, 25), Due.BEYOND);
        DUE.is("still missing", x.judge(0), Due.NONE);
        x.sheet(0, 8, 2);
        x.put(0, 0, 9);
        x.sheet(0, 8, 25);
        row("an ERROR changes nothing", x, 0, 9, 0);
    }

    private static void put() {
        RopeTreaty x = yard();
        int[] bits = {8, 16, 32};
        for (int sheet = 0; sheet < 3; sheet++) {
            x.sheet(sheet, bits[sheet], 2);
            DUE.is("put", x.put(sheet, 1, 99), 1);
            DUE.is("put", x.put(sheet, 0, 256 + 5), 1);
        }
        row("8 bits", x, 0, 5, 99);
        row("16 bits hold 261", x, 1);
        row("32 bits hold 261", x, 2);
        x.put(1, 0, -65536 + 6);
        row("16 bits", x, 1, 6, 99);
        x.put(2, 0, 65536 + 7);
        row("32 bits hold 65543", x, 2);
        x.put(0, 0, 200);
        row("8 bits hold 200", x, 0);
        DUE.is("no such SHEET", x.put(4, 0, 1), Due.BEYOND);
        DUE.is("no such SHEET", x.put(-1, 0, 1), Due.BEYOND);
        DUE.is("missing", x.put(3, -1, 1), Due.NONE);
        DUE.is("no such number", x.put(0, 2, 1), Due.BEYOND);
        DUE.is("no such number", x.put(0, -1, 1), Due.BEYOND);
        DUE.is("no such number", x.put(0, MAX, 1), Due.BEYOND);
    }

    private static void move() {
        RopeTreaty x = yard();
        x.sheet(0, 8, 5);
        x.sheet(1, 8, 4);
        for (int i = 0; i < 5; i++) {
            x.put(0, i, 10 + i);
        }
        DUE.is("to another", x.move(0, 1, 1, 2, 2), 2);
        row("another", x, 1, 0, 0, 11, 12);
        row("the one", x, 0, 10, 11, 12, 13, 14);
        DUE.is("on, over itself", x.move(0, 0, 0, 1, 4), 4);
        row("on", x, 0, 10, 10, 11, 12, 13);
        DUE.is("back, over itself", x.move(0, 1, 0, 0, 4), 4);
        row("back", x, 0, 10, 11, 12, 13, 13);
        DUE.is("none, at the end", x.move(0, 5, 1, 4, 0), 0);
        DUE.is("all of one", x.move(1, 0, 0, 1, 4), 4);
        row("all of one", x, 0, 10, 0, 0, 11, 12);
    }

    private static void moveErrors() {
        RopeTreaty x = yard();
        x.sheet(0, 8, 5);
        x.sheet(1, 8, 4);
        x.sheet(2, 16, 4);
        int[][] beyond = {{4, 0, 0, 0, 0}, {0, 0, 4, 0, 0}, {-1, 0, 3, 0, 0}, {3, 0, -1, 0, 0}, {0, -1, 1, 0, 1},
            {0, 0, 1, -1, 1}, {0, 0, 1, 0, -1}, {0, 0, 1, 0, 5}, {0, 2, 1, 0, 4}, {1, 0, 0, 2, 4}, {0, 6, 1, 0, 0},
            {0, 0, 1, 5, 0}, {0, MAX, 1, 0, 1}, {0, 1, 1, MAX, 1}, {0, 1, 1, 1, MAX}, {0, MAX, 1, MAX, MAX},
            {0, MIN, 1, MIN, MIN}};
        for (int[] b : beyond) {
            DUE.is("move beyond", x.move(b[0], b[1], b[2], b[3], b[4]), Due.BEYOND);
        }
        DUE.is("one is missing", x.move(3, 0, 0, 0, 1), Due.NONE);
        DUE.is("the other is missing", x.move(0, 0, 3, 0, -1), Due.NONE);
        DUE.is("both are missing", x.move(3, 0, 3, 0, 0), Due.NONE);
        DUE.is("unlike bits", x.move(0, 0, 2, 0, 1), Due.KIND);
        DUE.is("KIND ahead of BEYOND", x.move(2, -1, 0, 9, 99), Due.KIND);
        DUE.is("KIND, of none", x.move(2, 0, 0, 0, 0), Due.KIND);
        DUE.is("told KIND", x.told(5), 3);
    }

    private static void breaths() {
        RopeTreaty x = new RopeTreaty();
        x.jumper(0, 50, 0);
        x.jumper(0, 51, 0);
        x.jumper(0, 52, 0);
        x.sheet(0, 32, 5);
        DUE.is("as many as jumpers", x.breaths(0), 3);
        DUE.is("breath", x.jumperIs(2, 2), 0);
        x.put(0, 0, 99);
        x.put(0, 1, 100);
        x.put(0, 2, 7);
        DUE.is("up to 100", x.breaths(0), 1);
        DUE.is("breath of 0", x.jumperIs(0, 2), 99);
        DUE.is("breath of 1", x.jumperIs(1, 2), 0);
        DUE.is("breath of 2", x.jumperIs(2, 2), 0);
        x.put(0, 0, -1);
        DUE.is("up to -1", x.breaths(0), 0);
        x.sheet(0, 16, 2);
        x.put(0, 0, 65535);
        DUE.is("16 bits all 1", x.breaths(0), 0);
        x.sheet(0, 8, 0);
        DUE.is("no numbers", x.breaths(0), 0);
        DUE.is("no ERROR", x.told(1) + x.told(2) + x.told(3), 0);
        DUE.is("breaths(4)", x.breaths(4), Due.BEYOND);
        DUE.is("breaths(-1)", x.breaths(-1), Due.BEYOND);
        DUE.is("breaths(1)", x.breaths(1), Due.NONE);
    }

    private static void judge() {
        RopeTreaty x = new RopeTreaty();
        x.beats(2);
        x.jumper(0, 50, 0);
        x.jumper(10, 50, 0);
        x.jumper(60, 50, 0);
        x.sheet(0, 8, 4);
        DUE.is("none right", x.judge(0), 0);
        x.put(0, 0, 3);
        x.put(0, 2, 6);
        DUE.is("one right, then a wrong one", x.judge(0), 1);
        x.put(0, 1, 4);
        DUE.is("all jumpers right", x.judge(0), 3);
        x.beats(1);
        DUE.is("none at pepper", x.judge(0), 0);
        x.sheet(1, 16, 2);
        x.put(1, 0, 4);
        x.put(1, 1, 5);
        DUE.is("fewer numbers than jumpers", x.judge(1), 2);
        x.put(0, 0, 4);
        x.put(0, 1, 5);
        x.put(0, 2, 8);
        x.put(0, 3, 4);
        DUE.is("a number for no jumper", x.judge(0), 3);
        Due.text(x, 0, "0");
        x.sheet(1, 16, 2);
        DUE.is("a jumper for no number", x.judge(1), 2);
        DUE.is("judge(4)", x.judge(4), Due.BEYOND);
        DUE.is("judge(-1)", x.judge(-1), Due.BEYOND);
        DUE.is("judge(2)", x.judge(2), Due.NONE);
    }
}
