/** The edges that promises 12 to 15 and section 2 of the Terms name: THE TAPE, TEXTS, FAULT, what USES give. */
public final class EdgesOfTextsTest {
    private static final Due DUE = new Due("EdgesOfTextsTest");
    private static final Edges EDGES = new Edges(DUE);
    private static final int RIGHT = 1;

    public static void main(String[] args) {
        Edges.run(EdgesOfTextsTest.class, DUE);
    }

    /** A text is read as one of LIKES: 1, or -10 less the FAULT. */
    private static void reads(String text, int due) {
        RopeTreaty x = new RopeTreaty();
        DUE.is("text(1) of \"" + text + "\"", Due.text(x, 1, text), due);
    }

    private static void faults(String text, int place) {
        reads(text, -10 - place);
    }

    /** A text of LIKES gives so much. */
    private static void gives(String text, int l, int t, int s, int due) {
        RopeTreaty x = new RopeTreaty();
        DUE.is("text(1) of \"" + text + "\"", Due.text(x, 1, text), RIGHT);
        DUE.is("\"" + text + "\" with " + l + ", " + t + ", " + s, x.law(1, l, t, s), due);
    }

    private static String times(int n, String part) {
        return part.repeat(n);
    }

    private static RopeTreaty fullTape() {
        RopeTreaty x = Edges.busy();
        x.text(0);
        Due.text(x, 0, "c+p/2");
        Due.feed(x, times(29, "1+") + "22");
        return x;
    }

    /** As busy(), but THE TAPE is empty. */
    private static RopeTreaty emptyTape() {
        RopeTreaty x = Edges.busy();
        x.text(0);
        Due.text(x, 0, "c+p/2");
        return x;
    }

    // ---- promise 12 and THE TAPE

    /** "n lowest bytes (1 .. 8)", else "BEYOND". */
    private static void p12_nIs1To8() {
        RopeTreaty x = new RopeTreaty();
        DUE.is("feed of 1", x.feed(0x3131313131313131L, 1), 1);
        DUE.is("feed of 8", x.feed(0x2B312B312B312B32L, 8), 9);
        DUE.is("12+1+1+1+ ends in a sign", x.text(0), -19);
        EDGES.outside("feed, n", Edges::busy, (y, v) -> y.feed(0x31, v), 1, 8);
    }

    /** "The n lowest bytes of a word": those above do not come. */
    private static void p12_higherBytesAreCut() {
        RopeTreaty x = new RopeTreaty();
        DUE.is("feed", x.feed(0xFFFFFFFFFFFFFF37L, 1), 1);
        DUE.is("feed", x.feed(0x4142434445463938L, 2), 3);
        DUE.is("text", x.text(1), RIGHT);
        DUE.is("789", x.law(1, 0, 0, 0), 99);
        Due.text(x, 1, "l-700");
        DUE.is("789 - 700", x.law(1, 789, 0, 0), 89);
    }

    /** "the lowest first", of all eight, also of a word below 0. */
    private static void p12_theLowestFirst() {
        RopeTreaty x = new RopeTreaty();
        DUE.is("feed l-1-2-3-", x.feed(0x2D332D322D312D6CL, 8), 8);
        DUE.is("feed 4", x.feed(0x34, 1), 9);
        DUE.is("text", x.text(1), RIGHT);
        DUE.is("50 - 10", x.law(1, 50, 0, 0), 40);
        DUE.is("feed l, six, and 255", x.feed(0xFF2B312B312B316CL, 8), 8);
        DUE.is("the FAULT is at the second", x.text(1), -11);
        DUE.is("feed l+1+1+1 and 255", x.feed(0xFF312B312B312B6CL, 8), 8);
        DUE.is("the FAULT is at the last", x.text(1), -17);
    }

    /** "THE TAPE (bytes, at most 60)": sixty come, by ones, too. */
    private static void p12_sixtyBytesCome() {
        RopeTreaty x = new RopeTreaty();
        for (int i = 1; i <= 60; i++) {
            DUE.is("feed", x.feed(0x31, 1), i);
        }
        DUE.is("one more", x.feed(0x31, 1), Due.FULL);
        DUE.is("count(8)", x.count(8), 60);
    }

    /** "FULL": to a full TAPE not even one byte comes. */
    private static void p12_fullTape() {
        EDGES.unchanged("count(8)", EdgesOfTextsTest::fullTape, x -> x.count(8), 60);
        EDGES.refused("feed 1", EdgesOfTextsTest::fullTape, x -> x.feed(0x31, 1), Due.FULL);
        EDGES.refused("feed 8", EdgesOfTextsTest::fullTape, x -> x.feed(0x3131313131313131L, 8), Due.FULL);
    }

    /** "FULL": of more bytes than there is room for none comes; as many as there is room for do. */
    private static void p12_allOrNone() {
        for (int room = 1; room <= 7; room++) {
            RopeTreaty x = new RopeTreaty();
            Due.feed(x, times(60 - room, "1"));
            DUE.is("feed " + (room + 1) + " to room for " + room, x.feed(0x3131313131313131L, room + 1), Due.FULL);
            DUE.is("count(8)", x.count(8), 60 - room);
            DUE.is("feed " + room, x.feed(0x3131313131313131L, room), 60);
        }
    }

    /** "BEYOND. FULL.": in this order. */
    private static void p12_beyondIsAskedAheadOfFull() {
        EDGES.refused("feed 9", EdgesOfTextsTest::fullTape, x -> x.feed(0x31, 9), Due.BEYOND);
        EDGES.refused("feed 0", EdgesOfTextsTest::fullTape, x -> x.feed(0x31, 0), Due.BEYOND);
    }

    // ---- promise 13

    /** "a USE (0, 1)", else "BEYOND (THE TAPE stays)". */
    private static void p13_useIs0Or1AndTheTapeStays() {
        RopeTreaty x = new RopeTreaty();
        DUE.is("use 0", Due.text(x, 0, "1"), RIGHT);
        DUE.is("use 1", Due.text(x, 1, "1"), RIGHT);
        EDGES.outside("text, use", Edges::busy, (y, v) -> y.text(v), 0, 1);
        EDGES.outside("text, use, the tape full", EdgesOfTextsTest::fullTape, (y, v) -> y.text(v), 0, 1);
        EDGES.outside("text, use, the tape empty", EdgesOfTextsTest::emptyTape, (y, v) -> y.text(v), 0, 1);
    }

    /** "THE TAPE, which is empty then": also a full one. */
    private static void p13_theTapeIsEmptyThen() {
        RopeTreaty x = fullTape();
        DUE.is("text", x.text(1), RIGHT);
        DUE.is("count(8)", x.count(8), 0);
        DUE.is("29 and 22", x.law(1, 0, 0, 0), 51);
        DUE.is("all sixty are free", x.feed(0x3131313131313131L, 8), 8);
    }

    /** "in place of one ahead". */
    private static void p13_inPlaceOfOneAhead() {
        RopeTreaty x = new RopeTreaty();
        Due.text(x, 1, "((((7))))+1+1+1+1");
        Due.text(x, 1, "5");
        DUE.is("law", x.law(1, 0, 0, 0), 5);
        DUE.is("untell", x.untell(1), 1);
        DUE.is("none is left behind it", x.untell(1), 0);
    }

    /** "-10 less the FAULT (no ERROR; the one ahead stays; THE TAPE is empty, too)". */
    private static void p13_faultChangesTheTapeAlone() {
        RopeTreaty x = Edges.busy();
        Due.feed(x, "+");
        DUE.is("b+c*2+", x.text(0), -16);
        RopeTreaty y = emptyTape();
        EDGES.alike("a FAULT", x, y, 0);
    }

    /** "FAULT: .. how many there are, if it ends too early": an empty TAPE ends at 0. */
    private static void p13_emptyTape() {
        EDGES.unchanged("text(0)", EdgesOfTextsTest::emptyTape, x -> x.text(0), -10);
        EDGES.unchanged("text(1)", EdgesOfTextsTest::emptyTape, x -> x.text(1), -10);
    }

    // ---- section 2: the grammar and its edges

    /** "NUMBER of 1 to 4 digits": one, four, and 0 ahead. */
    private static void s2_numbersOfOneToFourDigits() {
        gives("0", 0, 0, 0, 0);
        gives("9", 0, 0, 0, 9);
        gives("99", 0, 0, 0, 99);
        gives("l-100", 199, 0, 0, 99);
        gives("9999-l", 9900, 0, 0, 99);
        gives("0000", 5, 0, 0, 0);
        gives("0099", 5, 0, 0, 99);
    }

    /** "NUMBER of 1 to 4 digits": with a fifth no TEXT goes on. */
    private static void s2_noNumberOfFiveDigits() {
        faults("10000", 4);
        faults("00001", 4);
        faults("1+12345", 6);
        faults("(12345)", 5);
        faults("123456789", 4);
    }

    /** "a NAME": those of the USE alone. */
    private static void s2_namesOfTheUseAlone() {
        String[] names = {"cbp", "lts"};
        for (int use = 0; use < 2; use++) {
            for (int i = 0; i < 3; i++) {
                String own = names[use].substring(i, i + 1);
                String other = names[1 - use].substring(i, i + 1);
                DUE.is("text(" + use + ") of " + own, Due.text(new RopeTreaty(), use, own), RIGHT);
                DUE.is("text(" + use + ") of " + other, Due.text(new RopeTreaty(), use, other), -10);
            }
        }
    }

    /** "a NAME": one letter; with a second, or with a digit, no TEXT goes on. */
    private static void s2_namesAreOneLetter() {
        faults("ll", 1);
        faults("lt", 1);
        faults("l1", 1);
        faults("1l", 1);
        faults("L", 0);
    }

    /** "No blanks": ahead, between, behind; nor other bytes. */
    private static void s2_noBlanks() {
        faults(" l", 0);
        faults("l +1", 1);
        faults("l+ 1", 2);
        faults("l ", 1);
        faults("l\t", 1);
        faults("l\n", 1);
        faults("l\0", 1);
        faults("\0", 0);
    }

    /** "bytes": of all 256 but the right ones begin a TEXT: digits, names, ! and (. */
    private static void s2_everyByteAtFirst() {
        for (int b = 0; b < 256; b++) {
            RopeTreaty x = new RopeTreaty();
            x.feed(b, 1);
            boolean ends = b >= '0' && b <= '9' || b == 'l' || b == 't' || b == 's';
            boolean goesOn = b == '!' || b == '(';
            DUE.is("byte " + b, x.text(1), ends ? RIGHT : goesOn ? -11 : -10);
        }
    }

    /** "bytes": behind a NAME of all 256 the signs of two sides go on, and end too early. */
    private static void s2_everyByteBehindAName() {
        for (int b = 0; b < 256; b++) {
            RopeTreaty x = new RopeTreaty();
            x.feed('l', 1);
            x.feed(b, 1);
            boolean goesOn = b < 128 && "|&<=>+-*/%".indexOf(b) >= 0;
            DUE.is("l and byte " + b, x.text(1), goesOn ? -12 : -11);
        }
    }

    /** "At most 5 of ! and ( are open at once": five. */
    private static void s2_fiveAreOpenAtOnce() {
        gives("!!!!!l", 3, 0, 0, 0);
        gives("(((((l)))))", 3, 0, 0, 3);
        gives("!(!(!l))", 3, 0, 0, 0);
        gives("(!(!(l)))", 3, 0, 0, 1);
        gives("1+(1+(1+(1+(1+(l)))))", 3, 0, 0, 8);
    }

    /** "At most 5 of ! and ( are open at once": with a sixth no TEXT goes on. */
    private static void s2_aSixthIsNotOpened() {
        faults("!!!!!!l", 5);
        faults("((((((l))))))", 5);
        faults("!(!(!(l)))", 5);
        faults("(!(!(!l)))", 5);
        faults("!!!!!(l)", 5);
        faults("(((((!l)))))", 5);
        faults("1+(1+(1+(1+(1+((l))))))", 15);
    }

    /** ".. are open at once": what is closed is not open; more than five may follow one another. */
    private static void s2_closedOnesAreNotOpen() {
        gives("(((((l)))))+(((((l)))))", 3, 0, 0, 6);
        gives("!!!!!l+!!!!!l", 0, 0, 0, 2);
        gives("!l+!l+!l+!l+!l+!l+!l", 0, 0, 0, 7);
        gives("((((!l+(t)))))", 0, 4, 0, 5);
        gives("(l)+(l)+(l)+(l)+(l)+(l)+(l)", 1, 0, 0, 7);
        faults("((((!!l))))", 5);
        faults("((((!l+((t))))))", 8);
    }

    /** "B: S, or S < S, S = S, S > S": one such sign; with a second no TEXT goes on, but behind & or | or in ( ). */
    private static void s2_oneLikenessAtATime() {
        for (char first : "<=>".toCharArray()) {
            for (char second : "<=>".toCharArray()) {
                faults("l" + first + "t" + second + "s", 3);
                faults("(l" + first + "t" + second + "s)", 4);
                reads("l" + first + "t&t" + second + "s", RIGHT);
                reads("l" + first + "t|t" + second + "s", RIGHT);
                reads("(l" + first + "t)" + second + "s", RIGHT);
                faults("l" + first + second + "t", 2);
            }
        }
    }

    /** "FAULT: the place of the first byte with which no TEXT goes on": at the first byte, in the midst, at the last. */
    private static void s2_faultIsTheFirstWrongByte() {
        faults(")", 0);
        faults("+l", 0);
        faults("-1", 0);
        faults("l+*t", 2);
        faults("l!", 1);
        faults("l(", 1);
        faults("()", 1);
        faults("(l+)", 3);
        faults("(l)t", 3);
        faults("(l))", 3);
        faults("l)", 1);
        faults("l+t)s(", 3);
        faults("l+t#", 3);
        faults("!)", 1);
        faults("l&&t", 2);
        faults("l||t", 2);
    }

    /** "FAULT: .. how many there are, if it ends too early". */
    private static void s2_faultOfOneThatEndsTooEarly() {
        faults("", 0);
        faults("!", 1);
        faults("(", 1);
        faults("(l", 2);
        faults("((l)", 4);
        for (char sign : "|&<=>+-*/%".toCharArray()) {
            faults("l" + sign, 2);
        }
        faults("!!!!!", 5);
        faults("(((((", 5);
        faults("l<t&", 4);
    }

    /** "THE TAPE (.. at most 60)", "how many there are": a TEXT of 60 bytes, and 60 that end too early. */
    private static void s2_sixtyBytes() {
        gives(times(29, "1+") + "70", 0, 0, 0, 99);
        gives(times(29, "1+") + "10", 0, 0, 0, 39);
        faults(times(30, "1+"), 60);
        faults(times(29, "1+") + "1(", 59);
        faults("(" + times(29, "1+") + "1", 60);
    }

    /** "Ints that wrap": + - * at the greatest and the least. */
    private static void s2_intsWrap() {
        gives("l+1=t", Edges.MAX, Edges.MIN, 0, 1);
        gives("l-1=t", Edges.MIN, Edges.MAX, 0, 1);
        gives("l*2=t", Edges.MAX, -2, 0, 1);
        gives("l*l", 65536, 0, 0, 0);
        gives("0-l=l", Edges.MIN, 0, 0, 1);
        gives("9999*9999*9999<0", 0, 0, 0, 1);
        gives("l-t<0", Edges.MAX, -1, 0, 1);
        gives("l<t", Edges.MIN, Edges.MAX, 0, 1);
    }

    /** "/ cut": of the least by -1 it wraps; "% the rest that it leaves" has the sign of what is divided. */
    private static void s2_quotientsAndRests() {
        gives("l/t=l", Edges.MIN, -1, 0, 1);
        gives("l%t", Edges.MIN, -1, 0, 0);
        gives("50+l/t", -7, 2, 0, 47);
        gives("50+l%t", -7, 2, 0, 49);
        gives("50+l%t", 7, -2, 0, 51);
        gives("50+l%t", -7, -2, 0, 49);
        gives("l/t*t+l%t=l", -99, 7, 0, 1);
        gives("l/t", 6, 7, 0, 0);
        gives("l%t", 6, 7, 0, 6);
        gives("l%t", 7, 7, 0, 0);
    }

    /** "both by 0 are 0": a name, a number, what is worked out. */
    private static void s2_byZeroIsZero() {
        gives("7+l/t", 50, 0, 0, 7);
        gives("7+l%t", 50, 0, 0, 7);
        gives("7+l/0", 50, 0, 0, 7);
        gives("7+l%0", 50, 0, 0, 7);
        gives("7+l/(t-t)", 50, 9, 0, 7);
        gives("7+l%(t-t)", 50, 9, 0, 7);
        gives("7+0/0", 50, 9, 0, 7);
        gives("7+l/t", Edges.MIN, 0, 0, 7);
    }

    /** "| & < = > ! are 1 or 0, what is not 0 being true": numbers below 0, too. */
    private static void s2_whatIsNotZeroIsTrue() {
        int[] truths = {Edges.MIN, -1, 1, 2, Edges.MAX};
        for (int v : truths) {
            gives("l|t", v, 0, 0, 1);
            gives("l|t", 0, v, 0, 1);
            gives("l&t", v, 0, 0, 0);
            gives("l&t", 0, v, 0, 0);
            gives("l&t", v, v, 0, 1);
            gives("l&t", v, 2, 0, 1);
            gives("!l", v, 0, 0, 0);
            gives("!!l", v, 0, 0, 1);
        }
        gives("l|t", 0, 0, 0, 0);
        gives("!l", 0, 0, 0, 1);
        gives("l&t", 1, 2, 0, 1);
    }

    /** "| & < = > ! are 1 or 0": what is not so is 0, not less, so that it can be counted with. */
    private static void s2_oneOrZero() {
        for (int l = 0; l < 3; l++) {
            for (int t = 0; t < 3; t++) {
                gives("50+(l|t)", l, t, 0, l > 0 || t > 0 ? 51 : 50);
                gives("50+(l&t)", l, t, 0, l > 0 && t > 0 ? 51 : 50);
                gives("50+(l<t)", l, t, 0, l < t ? 51 : 50);
                gives("50+(l=t)", l, t, 0, l == t ? 51 : 50);
                gives("50+(l>t)", l, t, 0, l > t ? 51 : 50);
                gives("50+!l", l, t, 0, l == 0 ? 51 : 50);
            }
        }
    }

    /** "all is worked out": what stands right of a | or & that is sure already may divide by 0. */
    private static void s2_allIsWorkedOut() {
        gives("l|t/s", 1, 7, 0, 1);
        gives("l|t%s", 1, 7, 0, 1);
        gives("l&t/s", 0, 7, 0, 0);
        gives("!l&(t/s|t%s)", 1, 7, 0, 0);
    }

    /** "< = > are 1 or 0": beside each other and alike. */
    private static void s2_likenesses() {
        gives("l<t", 4, 5, 0, 1);
        gives("l<t", 5, 5, 0, 0);
        gives("l>t", 6, 5, 0, 1);
        gives("l>t", 5, 5, 0, 0);
        gives("l=t", 5, 5, 0, 1);
        gives("l=t", 5, 6, 0, 0);
        gives("l<t", -1, 0, 0, 1);
        gives("l>t", 0, -1, 0, 1);
    }

    /** "Q: .. ! Q": it binds what stands next alone. */
    private static void s2_notBindsTheNextAlone() {
        gives("!l+t", 0, 5, 0, 6);
        gives("!l*t", 0, 5, 0, 5);
        gives("!l=t", 0, 1, 0, 1);
        gives("!(l+t)", 0, 5, 0, 0);
    }

    /** "P: Q { * Q ..}", "S: P { + P ..}": those of one kind from the left on; of unlike ones * ahead of + of < of & of |. */
    private static void s2_orderOfSigns() {
        gives("l-t-s", 60, 20, 10, 30);
        gives("l/t/s", 60, 3, 2, 10);
        gives("l-t+s", 60, 20, 10, 50);
        gives("l/t*s", 60, 7, 2, 16);
        gives("l%t*s", 60, 7, 2, 8);
        gives("l+t*s", 1, 2, 3, 7);
        gives("l*t+s", 1, 2, 3, 5);
        gives("l+t<s", 1, 1, 3, 1);
        gives("l<t&s", 1, 2, 0, 0);
        gives("l|t&s", 1, 1, 0, 1);
        gives("(l|t)&s", 1, 1, 0, 0);
        gives("l&t|s", 0, 1, 1, 1);
        gives("l=t|s", 2, 2, 0, 1);
    }

    // ---- section 2: what USES give

    /** "USES: 0 COSTS: .. held within 0 .. 20". */
    private static void s2_costsAreHeldWithin0To20() {
        RopeTreaty x = new RopeTreaty();
        Due.text(x, 0, "c+b+p-100");
        int[][] due = {{99, 0}, {100, 0}, {101, 1}, {119, 19}, {120, 20}, {121, 20}, {Edges.MAX, 20}, {Edges.MIN, 20}};
        for (int[] d : due) {
            DUE.is("law(0, " + d[0] + ", ..)", x.law(0, d[0], 0, 0), d[1]);
        }
    }

    /** "1 LIKES: .. held within 0 .. 99". */
    private static void s2_likesAreHeldWithin0To99() {
        RopeTreaty x = new RopeTreaty();
        Due.text(x, 1, "l+t+s-100");
        int[][] due = {{99, 0}, {100, 0}, {101, 1}, {198, 98}, {199, 99}, {200, 99}, {Edges.MAX, 99}, {Edges.MIN, 99}};
        for (int[] d : due) {
            DUE.is("law(1, " + d[0] + ", ..)", x.law(1, d[0], 0, 0), d[1]);
        }
    }

    /** "without a TEXT c (held likewise)". */
    private static void s2_costsWithoutATextAreHeldToo() {
        RopeTreaty x = new RopeTreaty();
        int[][] due = {{Edges.MIN, 0}, {-1, 0}, {0, 0}, {1, 1}, {19, 19}, {20, 20}, {21, 20}, {Edges.MAX, 20}};
        for (int[] d : due) {
            DUE.is("law(0, " + d[0] + ", ..)", x.law(0, d[0], 7, 8), d[1]);
        }
    }

    /** "without a TEXT l (held likewise)". */
    private static void s2_likesWithoutATextAreHeldToo() {
        RopeTreaty x = new RopeTreaty();
        int[][] due = {{Edges.MIN, 0}, {-1, 0}, {0, 0}, {1, 1}, {98, 98}, {99, 99}, {100, 99}, {Edges.MAX, 99}};
        for (int[] d : due) {
            DUE.is("law(1, " + d[0] + ", ..)", x.law(1, d[0], 7, 8), d[1]);
        }
    }

    /** "NAMES c what the KIND TAKES, b the WORD, p how many are IN": p 0 and 6, b 0 and 3, as a beat COSTS. */
    private static void s2_namesOfCosts() {
        for (int beats = 0; beats < 5; beats++) {
            RopeTreaty x = Due.beaten(beats);
            x.jumper(60, 50, 0);
            for (int j = 1; j < 6; j++) {
                x.jumper(0, 50, 0);
            }
            Due.text(x, 0, "b");
            DUE.is("b at BEAT " + beats, x.jumperIs(0, 5), beats % 4);
            Due.text(x, 0, "c");
            DUE.is("c at BEAT " + beats, x.jumperIs(0, 5), 2 + 2 * (beats % 4));
            Due.text(x, 0, "p*3");
            for (int in = 0; in <= 6; in++) {
                DUE.is("p of " + in, x.jumperIs(0, 5), 3 * in);
                x.jump(5 - in, 1);
            }
        }
    }

    /** "NAMES l how the KIND LEANS, t the TREATY, s the SIDE": t 0 and 63, s 0 and 1. */
    private static void s2_namesOfLikes() {
        RopeTreaty x = new RopeTreaty();
        x.jumper(10, 50, 0);
        x.jumper(10, 50, 1);
        Due.text(x, 1, "t");
        DUE.is("t 0", x.liking(0, 0), 0);
        DUE.is("t 63", x.liking(0, 63), 63);
        Due.text(x, 1, "s");
        DUE.is("s 0", x.liking(0, 63), 0);
        DUE.is("s 1", x.liking(1, 63), 1);
        Due.text(x, 1, "l");
        DUE.is("l of 63", x.liking(0, 63), 40);
        DUE.is("l of 0", x.liking(0, 0), 60);
    }

    // ---- promise 14

    /** "a USE": else "BEYOND". */
    private static void p14_useIs0Or1() {
        EDGES.outside("untell", Edges::busy, (x, v) -> x.untell(v), 0, 1);
    }

    /** "1 if there was, else 0": that of the other USE, and THE TAPE, stay. */
    private static void p14_oneIfThereWas() {
        RopeTreaty x = Edges.busy();
        DUE.is("untell(0)", x.untell(0), 1);
        DUE.is("untell(0) again", x.untell(0), 0);
        DUE.is("law(0, 7, 0, 6)", x.law(0, 7, 0, 6), 7);
        DUE.is("law(1, 7, 0, 6)", x.law(1, 7, 0, 6), 19);
        DUE.is("count(8)", x.count(8), 5);
        DUE.is("untell(1)", x.untell(1), 1);
        DUE.is("untell(1) again", x.untell(1), 0);
        DUE.is("law(1, 7, 0, 6)", x.law(1, 7, 0, 6), 7);
    }

    /** "There is no TEXT of a USE any more": a TEXT with a FAULT was none. */
    private static void p14_noTextByAFault() {
        RopeTreaty x = new RopeTreaty();
        Due.text(x, 0, "c+");
        DUE.is("untell(0)", x.untell(0), 0);
    }

    // ---- promise 15

    /** "a USE": else "BEYOND". */
    private static void p15_useIs0Or1() {
        EDGES.outside("law", Edges::busy, (x, v) -> x.law(v, 1, 1, 1), 0, 1);
    }

    /** "NAMES in order as a, b, c (any number)". */
    private static void p15_namesInOrderAreAnyNumber() {
        RopeTreaty x = new RopeTreaty();
        int[] any = {Edges.MIN, -1000000001, -1, 0, 63, 64, Edges.MAX};
        String[] texts = {"c", "b", "p"};
        for (int place = 0; place < 3; place++) {
            Due.text(x, 0, texts[place]);
            for (int v : any) {
                int[] names = {5, 6, 7};
                names[place] = v;
                long due = Math.max(0, Math.min(20, v));
                DUE.is(texts[place] + " as " + v, x.law(0, names[0], names[1], names[2]), due);
            }
        }
        DUE.is("no ERROR", x.told(1), 0);
    }

    /** "What a USE gives": it changes nothing. */
    private static void p15_lawChangesNothing() {
        EDGES.unchanged("law(0, 4, 2, 3)", Edges::busy, x -> x.law(0, 4, 2, 3), 5);
        EDGES.unchanged("law(1, -1000000001, 2, 3)", Edges::busy, x -> x.law(1, -1000000001, 2, 3), 0);
    }
}
