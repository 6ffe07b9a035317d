/** Promises 12 to 15: the tape, texts, what they give. */
public final class TextsTest {
    private static final Due DUE = new Due("TextsTest");

    public static void main(String[] args) {
        feed();
        text();
        faults();
        untell();
        laws();
        law();
        DUE.end();
    }

    private static void feed() {
        RopeTreaty x = new RopeTreaty();
        DUE.is("feed 0 bytes", x.feed(0, 0), Due.BEYOND);
        DUE.is("feed 9 bytes", x.feed(0, 9), Due.BEYOND);
        DUE.is("feed -1 bytes", x.feed(0, -1), Due.BEYOND);
        for (int i = 1; i <= 7; i++) {
            DUE.is("feed 8 bytes", x.feed(0x3131313131313131L, 8), 8 * i);
        }
        DUE.is("feed 5 of 4", x.feed(0, 5), Due.FULL);
        DUE.is("BEYOND ahead of FULL", x.feed(0, 9), Due.BEYOND);
        DUE.is("the tape", x.count(8), 56);
        DUE.is("feed 4 of 4", x.feed(0, 4), 60);
        DUE.is("feed 1 of 0", x.feed(0, 1), Due.FULL);
        DUE.is("told FULL", x.told(4), 2);
        DUE.is("a fifth digit", x.text(0), -14);
        DUE.is("feed c+1, of more", x.feed(0xFFFFFFFFFF312B63L, 3), 3);
        DUE.is("text c+1", x.text(0), 1);
        DUE.is("c+1", x.law(0, 4, 0, 0), 5);
    }

    private static void text() {
        RopeTreaty x = new RopeTreaty();
        DUE.is("an empty tape", x.text(0), -10);
        DUE.is("a text", Due.text(x, 0, "c*2"), 1);
        DUE.is("the tape is empty", x.count(8), 0);
        DUE.is("given", x.law(0, 4, 0, 0), 8);
        DUE.is("a text with a fault", Due.text(x, 0, "c*"), -12);
        DUE.is("the tape is empty, too", x.count(8), 0);
        DUE.is("the one ahead stays", x.law(0, 4, 0, 0), 8);
        DUE.is("the fault is no ERROR", x.told(1), 0);
        Due.feed(x, "c*3");
        DUE.is("use 2", x.text(2), Due.BEYOND);
        DUE.is("use -1", x.text(-1), Due.BEYOND);
        DUE.is("the tape stays", x.count(8), 3);
        DUE.is("in place of one ahead", x.text(0), 1);
        DUE.is("given now", x.law(0, 4, 0, 0), 12);
        DUE.is("the other use has none", x.law(1, 4, 0, 0), 4);
    }

    private static void faults() {
        Object[][] due = {
            {"c c", 1}, {"c+", 2}, {"+c", 0}, {"c++c", 2}, {"(c", 2}, {"c)", 1}, {"()", 1}, {"(c))", 3}, {"c*t", 2},
            {"12345", 4}, {"1234", -1}, {"0001", -1}, {"1c", 1}, {"c1", 1}, {"cb", 1}, {"1(", 1}, {"c!", 1},
            {"c<b<p", 3}, {"c<b=p", 3}, {"(c<b)<p", -1}, {"c<b&b<p|p=1", -1}, {"c<", 2}, {"c&", 2}, {"c|", 2},
            {"!!!!!c", -1}, {"!!!!!!c", 5}, {"(((((c)))))", -1}, {"((((((c))))))", 5}, {"!(!(!c))", -1},
            {"!(!(!(c)))", 5}, {"!(!(!!c))", 5}, {"!c+!c+!c+!c+!c+!c", -1}, {"(c)*(c)*(c)*(c)*(c)*(c)", -1},
            {"((((!c+(b)))))", -1}, {"((((!c+((b))))))", 8}, {"!!!!(c)", -1}, {"!!!!!(c)", 5}, {"!!!!!", 5},
            {"(((((c))))", 10}, {"c-1-1-1", -1}, {"-1", 0}, {"c*-1", 2}, {"a", 0}, {"C", 0}, {"c\n", 1}, {"\u00e9", 0},
            {"c%b/p*1", -1}, {"c,", 1}, {"c=b", -1}, {"c==b", 2}, {"c>=b", 2}, {"!", 1}, {"(", 1}, {"(c<b<p)", 4},
            {"(c|b", 4}, {"9999", -1}, {"(9999)9", 6}, {"12 ", 2}, {" 12", 0}, {"s", 0}, {"l", 0}, {"c\0", 1}};
        for (Object[] d : due) {
            RopeTreaty x = new RopeTreaty();
            int place = (Integer) d[1];
            DUE.is("text \"" + d[0] + "\"", Due.text(x, 0, (String) d[0]), place < 0 ? 1 : -10 - place);
        }
        RopeTreaty x = new RopeTreaty();
        DUE.is("names of likes", Due.text(x, 1, "l+t+s"), 1);
        DUE.is("no name of costs", Due.text(x, 1, "l+c"), -12);
        String sixty = "1+1+1+1+1+1+1+1+1+1+1+1+1+1+1+1+1+1+1+1+1+1+1+1+1+1+1+1+1+";
        DUE.is("58 bytes and a number of 2", Due.text(x, 1, sixty + "10"), 1);
        DUE.is("its sum", x.law(1, 0, 0, 0), 39);
        DUE.is("60 bytes that end too early", Due.text(x, 1, sixty + "1+"), -70);
    }

    private static void untell() {
        RopeTreaty x = new RopeTreaty();
        Due.text(x, 0, "7");
        Due.text(x, 1, "9");
        DUE.is("untell(0)", x.untell(0), 1);
        DUE.is("untell(0) again", x.untell(0), 0);
        DUE.is("law 0 without a text", x.law(0, 3, 0, 0), 3);
        DUE.is("law 1 with one", x.law(1, 3, 0, 0), 9);
        DUE.is("untell(1)", x.untell(1), 1);
        DUE.is("law 1 without a text", x.law(1, 3, 0, 0), 3);
        DUE.is("untell(2)", x.untell(2), Due.BEYOND);
        DUE.is("untell(-1)", x.untell(-1), Due.BEYOND);
    }

    private static void laws() {
        int min = Integer.MIN_VALUE;
        int max = Integer.MAX_VALUE;
        // The text of likes, with l, t, s, and what it gives (held within 0 .. 99).
        Object[][] due = {
            {"l-t-s", 50, 20, 7, 23}, {"l-(t-s)", 50, 20, 7, 37}, {"l/t/s", 90, 3, 5, 6}, {"l/t*s", 50, 7, 3, 21},
            {"l%t", 50, 7, 0, 1}, {"100+l%t", -50, 7, 0, 99}, {"50+l%t", -50, 7, 0, 49}, {"50+l/t", -50, 7, 0, 43},
            {"50+l/t", 50, -7, 0, 43}, {"50+l%t", 50, -7, 0, 51}, {"7+l/t", 50, 0, 0, 7}, {"7+l%t", 50, 0, 0, 7},
            {"l+t*s", 2, 3, 4, 14}, {"(l+t)*s", 2, 3, 4, 20}, {"l|t", 0, 0, 0, 0}, {"l|t", 0, -5, 0, 1},
            {"l|t", 4, 8, 0, 1}, {"l&t", 4, 8, 0, 1}, {"l&t", 4, 0, 0, 0}, {"!l", 0, 0, 0, 1}, {"!l", -3, 0, 0, 0},
            {"!!l", -3, 0, 0, 1}, {"!l+5", 0, 0, 0, 6}, {"!(l+5)", 0, 0, 0, 0}, {"!l*5", 0, 0, 0, 5},
            {"l<t", 1, 2, 0, 1}, {"l<t", 2, 2, 0, 0}, {"l>t", 3, 2, 0, 1}, {"l>t", 2, 2, 0, 0}, {"l=t", 2, 2, 0, 1},
            {"l=t", 2, 3, 0, 0}, {"l<t", min, max, 0, 1}, {"l>t", max, min, 0, 1}, {"l+1<t", max, 0, 0, 1},
            {"l-1>t", min, 0, 0, 1}, {"l/t=l", min, -1, 0, 1}, {"l%t", min, -1, 0, 0}, {"l*t", 65536, 65536, 0, 0},
            {"l+3<t*2", 4, 4, 0, 1}, {"l=1|t=1&s=1", 1, 0, 0, 1}, {"l=1|t=1&s=1", 0, 1, 0, 0},
            {"(l=1|t=1)&s=1", 1, 0, 0, 0}, {"l&t|s", 0, 1, 1, 1}, {"(l<t)+(t<s)*10", 1, 2, 3, 11}, {"0042", 0, 0, 0, 42},
            {"9999-9900", 0, 0, 0, 99}, {"l", 100, 0, 0, 99}, {"l", -1, 0, 0, 0}, {"t", 0, 63, 0, 63}, {"s", 0, 0, 1, 1},
            {"((((l-1)-1)-1)-1)-1", 50, 0, 0, 45}, {"1-(1-(1-(1-(1-(l)))))", -30, 0, 0, 31}, {"l*0|t", 0, 0, 0, 0},
            {"10-l-t*2+s%3", 1, 2, 8, 7}, {"l-t+s", 9, 5, 3, 7}, {"l*t%s", 7, 5, 9, 8}, {"l%t*s", 17, 10, 3, 21}};
        for (Object[] d : due) {
            RopeTreaty x = new RopeTreaty();
            Due.text(x, 1, (String) d[0]);
            long got = x.law(1, (Integer) d[1], (Integer) d[2], (Integer) d[3]);
            DUE.is("law of \"" + d[0] + "\" with " + d[1] + ", " + d[2] + ", " + d[3], got, (Integer) d[4]);
        }
    }

    private static void law() {
        RopeTreaty x = new RopeTreaty();
        DUE.is("no text of costs, 20", x.law(0, 20, 1, 1), 20);
        DUE.is("no text of costs, 21", x.law(0, 21, 1, 1), 20);
        DUE.is("no text of costs, -1", x.law(0, -1, 1, 1), 0);
        DUE.is("no text of likes, 99", x.law(1, 99, 1, 1), 99);
        DUE.is("no text of likes, 100", x.law(1, 100, 1, 1), 99);
        DUE.is("no text of likes, -1", x.law(1, Integer.MIN_VALUE, 1, 1), 0);
        Due.text(x, 0, "c+b*10+p*100");
        DUE.is("names in order", x.law(0, 2, 1, 0), 12);
        DUE.is("the third", x.law(0, 2, 1, -1), 0);
        DUE.is("held at 20", x.law(0, 2, 1, 1), 20);
        DUE.is("use 2", x.law(2, 0, 0, 0), Due.BEYOND);
        DUE.is("use -1", x.law(-1, 0, 0, 0), Due.BEYOND);
        DUE.is("told BEYOND", x.told(1), 2);
    }
}
