/** The edges that promises 19 to 27 and section 3 of the Terms name: what is, what would be. */
public final class EdgesOfThoughtTest {
    private static final Due DUE = new Due("EdgesOfThoughtTest");
    private static final Edges EDGES = new Edges(DUE);

    public static void main(String[] args) {
        Edges.run(EdgesOfThoughtTest.class, DUE);
    }

    /** One of a KIND and m 7, SIDE 0, with so much BREATH, who is IN. */
    private static RopeTreaty in(int kind, int breath) {
        RopeTreaty x = new RopeTreaty();
        x.jumper(10 * kind + 7, breath, 0);
        x.jump(0, 1);
        return x;
    }

    /** As busy(), of whom all who are IN LIKE nothing as much as THE BAR. */
    private static RopeTreaty atOdds() {
        RopeTreaty x = Edges.busy();
        x.bar(99);
        return x;
    }

    // ---- section 3

    /** "(All this is only thought ..)": no answer changes anything. */
    private static void s3_allThisIsOnlyThought() {
        EDGES.unchanged("then", Edges::busy, x -> x.then(0, 99, 0) < 0 ? 1 : 0, 0);
        EDGES.unchanged("lasts", Edges::busy, x -> x.lasts(0) < 0 ? 1 : 0, 0);
        EDGES.unchanged("agree", Edges::busy, x -> x.agree(0) < 0 ? 1 : 0, 0);
        EDGES.unchanged("agree", Edges::busy, x -> x.agree(1) < 0 ? 1 : 0, 0);
        EDGES.unchanged("fairest", Edges::busy, x -> x.fairest(0) < 0 ? 1 : 0, 0);
        EDGES.unchanged("balks", Edges::busy, x -> x.balks(0) < 0 ? 1 : 0, 0);
        EDGES.unchanged("soon", Edges::busy, x -> x.soon(45) < 0 ? 1 : 0, 0);
        EDGES.unchanged("meets", Edges::busy, x -> x.meets(29, 30, 28, 29) < 0 ? 1 : 0, 0);
        EDGES.unchanged("odds", Edges::busy, x -> x.odds(0, 0) < 0 ? 1 : 0, 0);
    }

    /** "JUMPERS (at most 6)": all that is asked of the sixth, or of six who are IN. */
    private static void s3_ofSixJumpers() {
        RopeTreaty x = new RopeTreaty();
        for (int j = 0; j < 6; j++) {
            x.jumper(30, 40 + j, j == 5 ? 1 : 0);
            x.jump(j, 1);
        }
        Due.text(x, 1, "l-20*(s&t>60)");
        DUE.is("then", x.then(5, 45, 0), 0);
        DUE.is("lasts", x.lasts(5), 46);
        DUE.is("agree", x.agree(0), 61);
        DUE.is("fairest, which", x.fairest(0), 4);
        DUE.is("fairest, how much", x.fairest(1), 44);
        DUE.is("balks, who", x.balks(0), 5);
        DUE.is("balks, how many", x.balks(1), 3);
        DUE.is("soon", x.soon(63), Due.NONE);
        DUE.is("odds, above", x.odds(5, 0), 61);
        DUE.is("odds, below", x.odds(5, 1), 64);
        x.sheet(0, 8, 6);
        for (int j = 0; j < 6; j++) {
            x.put(0, j, 10 + j);
        }
        DUE.is("fits", x.fits(0), 30);
    }

    /** "BEAT beyond 99999, too": thought goes on where BEATS do not. 512 calls do not reach that, this class does. */
    private static void s3_thoughtGoesBeyond99999() {
        RopeTreaty x = Due.beaten(99999);
        x.spell(0, 99);
        x.spell(1, 99);
        x.jumper(0, 50, 0);
        x.jump(0, 1);
        DUE.is("PEPPER", x.then(0, 1, 0), 46);
        DUE.is("PEPPER, SALT", x.then(0, 2, 0), 45);
        // 50 are 4 at PEPPER, four times 1, 2, 3, 4, and 1, 2, 3: none is left for the next PEPPER.
        DUE.is("lasts", x.lasts(0), 21);
        DUE.is("BEAT stays", x.count(2), 99999);
        DUE.is("meets at 100000", x.meets(0, 4, 0, 5), 100000);
        DUE.is("meets behind it", x.meets(3, 30, 3, 29), 100053);
        x.bar(0);
        DUE.is("soon, not at PEPPER", x.soon(5), 1);
        x.sheet(0, 8, 1);
        x.put(0, 0, 45);
        DUE.is("fits", x.fits(0), 2);
    }

    // ---- promise 19

    /** "a JUMPER": else "BEYOND". */
    private static void p19_jumperIsOneThatThereIs() {
        EDGES.outside("then, jumper", Edges::busy, (x, v) -> x.then(v, 1, 0), 0, 4);
    }

    /** "n (0 .. 99)", else "BEYOND". */
    private static void p19_nIs0To99() {
        EDGES.outside("then, n", Edges::busy, (x, v) -> x.then(0, v, 0), 0, 99);
    }

    /** "what 0 BREATH, 1 IN", else "BEYOND". */
    private static void p19_whatIs0Or1() {
        EDGES.outside("then, what", Edges::busy, (x, v) -> x.then(0, 1, v), 0, 1);
    }

    /** "n (0 .. 99)": 0 BEATS on all is as now. */
    private static void p19_zeroBeatsOn() {
        EDGES.unchanged("then(1, 0, 0)", Edges::busy, x -> x.then(1, 0, 0), 61);
        EDGES.unchanged("then(1, 0, 1)", Edges::busy, x -> x.then(1, 0, 1), 1);
        EDGES.unchanged("then(2, 0, 1)", Edges::busy, x -> x.then(2, 0, 1), 0);
    }

    /** "n (0 .. 99)": 99 BEATS on, of which all turn. */
    private static void p19_ninetyNineBeatsOn() {
        RopeTreaty x = in(3, 99);
        DUE.is("98 on, BREATH", x.then(0, 98, 0), 1);
        DUE.is("99 on, BREATH", x.then(0, 99, 0), 0);
        DUE.is("99 on, IN", x.then(0, 99, 1), 1);
        x.rest(0, 98);
        DUE.is("of 98, 99 on, IN", x.then(0, 99, 1), 0);
        DUE.is("of 98, 98 on, IN", x.then(0, 98, 1), 1);
        x.jump(0, 0);
        x.rest(0, 1);
        DUE.is("one who rests, 98 on", x.then(0, 98, 0), 99);
        DUE.is("one who rests, 99 on", x.then(0, 99, 0), 99);
    }

    // ---- promise 20

    /** "LASTS .. BEYOND": a JUMPER that there isn't. */
    private static void p20_jumperIsOneThatThereIs() {
        EDGES.outside("lasts", Edges::busy, (x, v) -> x.lasts(v), 0, 4);
        EDGES.outside("lasts, nobody IN", Edges::lonely, (x, v) -> x.lasts(v), 0, 4);
    }

    /** "STATE: he isn't IN". */
    private static void p20_stateIfHeIsNotIn() {
        EDGES.refused("lasts(3)", Edges::busy, x -> x.lasts(3), Due.STATE);
        EDGES.refused("lasts(0)", Edges::lonely, x -> x.lasts(0), Due.STATE);
    }

    /** "STATE" ahead of "NONE": he who isn't IN is so till 99, too. */
    private static void p20_stateIsAskedAheadOfNone() {
        EDGES.refused("lasts(3) in a still rope", Edges::still, x -> x.lasts(3), Due.STATE);
    }

    /** "behind how many BEATS (1 .. 99)": 1 is the least. */
    private static void p20_behindOne() {
        DUE.is("no BREATH", in(0, 0).lasts(0), 1);
        DUE.is("BREATH for one BEAT", in(0, 1).lasts(0), 2);
    }

    /** "(1 .. 99)": 99 is the greatest; "NONE: he is IN till 99". */
    private static void p20_behindNinetyNine() {
        DUE.is("BREATH 97", in(3, 97).lasts(0), 98);
        DUE.is("BREATH 98", in(3, 98).lasts(0), 99);
        EDGES.refused("BREATH 99", () -> in(3, 99), x -> x.lasts(0), Due.NONE);
    }

    /** "NONE: he is IN till 99": for the rope stands. */
    private static void p20_noneInAStillRope() {
        EDGES.refused("lasts(0)", Edges::still, x -> x.lasts(0), Due.NONE);
        RopeTreaty x = in(0, 3);
        x.spell(1, 2);
        DUE.is("the rope stands ahead of the BEAT", x.lasts(0), Due.NONE);
        x.spell(1, 3);
        DUE.is("the last BEAT that turns", x.lasts(0), 3);
    }

    // ---- promise 21

    /** "what 0 how many, 1 the least", else "BEYOND". */
    private static void p21_whatIs0Or1() {
        EDGES.outside("agree", Edges::busy, (x, v) -> x.agree(v), 0, 1);
        EDGES.outside("agree, none", EdgesOfThoughtTest::atOdds, (x, v) -> x.agree(v), 0, 1);
    }

    /** "NONE: (what 1) there is none". */
    private static void p21_noneIfNoneIsTaken() {
        EDGES.refused("agree(1)", EdgesOfThoughtTest::atOdds, x -> x.agree(1), Due.NONE);
    }

    /** "NONE: (what 1)": how many (0) is 0, no ERROR. */
    private static void p21_howManyIsZero() {
        EDGES.unchanged("agree(0)", EdgesOfThoughtTest::atOdds, x -> x.agree(0), 0);
    }

    /** "TREATIES that ARE TAKEN now": all if nobody is IN. */
    private static void p21_allIfNobodyIsIn() {
        EDGES.unchanged("agree(0)", Edges::lonely, x -> x.agree(0), 64);
        EDGES.unchanged("agree(1)", Edges::lonely, x -> x.agree(1), 0);
        EDGES.unchanged("agree(0), no JUMPERS", Edges::fresh, x -> x.agree(0), 64);
    }

    /** "how many, .. the least": of 63 alone, of 0 alone, of all. */
    private static void p21_theFirstAndTheLast() {
        RopeTreaty x = in(0, 50);
        Due.text(x, 1, "(t=63)*30");
        DUE.is("how many", x.agree(0), 1);
        DUE.is("the least", x.agree(1), 63);
        Due.text(x, 1, "(t=0)*30");
        DUE.is("how many", x.agree(0), 1);
        DUE.is("the least", x.agree(1), 0);
        Due.text(x, 1, "30");
        DUE.is("how many", x.agree(0), 64);
        Due.text(x, 1, "29");
        DUE.is("one less than THE BAR", x.agree(0), 0);
    }

    /** "now": in a still rope and at PEPPER, too. */
    private static void p21_nowWhateverTheRopeDoes() {
        RopeTreaty x = in(3, 50);
        x.beats(3);
        DUE.is("PEPPER", x.agree(0), 64);
        x.spell(0, 0);
        DUE.is("still", x.agree(0), 64);
    }

    // ---- promise 22

    /** "what 0 which, 1 how much", else "BEYOND", ahead of STATE. */
    private static void p22_whatIs0Or1() {
        EDGES.outside("fairest", Edges::busy, (x, v) -> x.fairest(v), 0, 1);
        EDGES.outside("fairest, nobody IN", Edges::lonely, (x, v) -> x.fairest(v), 0, 1);
    }

    /** "STATE: nobody is IN": without JUMPERS, too. */
    private static void p22_stateIfNobodyIsIn() {
        for (int what = 0; what < 2; what++) {
            int asked = what;
            EDGES.refused("fairest", Edges::lonely, x -> x.fairest(asked), Due.STATE);
            EDGES.refused("fairest, no JUMPERS", Edges::fresh, x -> x.fairest(asked), Due.STATE);
        }
    }

    /** "of several the least": of all 64 alike it is 0, by 0 and by 99. */
    private static void p22_ofSeveralTheLeast() {
        RopeTreaty x = in(0, 50);
        String[] texts = {"0", "99", "0-5", "500"};
        int[] much = {0, 99, 0, 99};
        for (int i = 0; i < texts.length; i++) {
            Due.text(x, 1, texts[i]);
            DUE.is("which by " + texts[i], x.fairest(0), 0);
            DUE.is("how much by " + texts[i], x.fairest(1), much[i]);
        }
        Due.text(x, 1, "t/9");
        DUE.is("63 alone", x.fairest(0), 63);
        Due.text(x, 1, "t/8");
        DUE.is("56 .. 63", x.fairest(0), 56);
        DUE.is("how much", x.fairest(1), 7);
        Due.text(x, 1, "t>0");
        DUE.is("1 .. 63", x.fairest(0), 1);
    }

    /** "LIKES most who is IN and LIKES it least of those IN": one who isn't IN is not asked. */
    private static void p22_ofThoseIn() {
        RopeTreaty x = in(0, 50);
        x.jumper(0, 50, 1);
        Due.text(x, 1, "(t=5)*50+(t=9)*40*!s");
        DUE.is("both like 5", x.fairest(0), 5);
        Due.text(x, 1, "(t=5)*50*!s+(t=9)*40");
        DUE.is("one IN", x.fairest(0), 5);
        DUE.is("how much", x.fairest(1), 50);
        x.jump(1, 1);
        DUE.is("two IN", x.fairest(0), 9);
        DUE.is("how much of two", x.fairest(1), 40);
    }

    // ---- promise 23

    /** "what 0 who, 1 how many", else "BEYOND", ahead of STATE. */
    private static void p23_whatIs0Or1() {
        EDGES.outside("balks", Edges::busy, (x, v) -> x.balks(v), 0, 1);
        EDGES.outside("balks, nobody IN", Edges::lonely, (x, v) -> x.balks(v), 0, 1);
    }

    /** "STATE: nobody is IN": without JUMPERS, too. */
    private static void p23_stateIfNobodyIsIn() {
        for (int what = 0; what < 2; what++) {
            int asked = what;
            EDGES.refused("balks", Edges::lonely, x -> x.balks(asked), Due.STATE);
            EDGES.refused("balks, no JUMPERS", Edges::fresh, x -> x.balks(asked), Due.STATE);
        }
    }

    /** "on whom alone most TREATIES fail": one who is IN alone, of none and of all 64. */
    private static void p23_oneAlone() {
        RopeTreaty x = in(0, 50);
        Due.text(x, 1, "30");
        DUE.is("none: who", x.balks(0), 0);
        DUE.is("none: how many", x.balks(1), 0);
        Due.text(x, 1, "29");
        DUE.is("all: who", x.balks(0), 0);
        DUE.is("all: how many", x.balks(1), 64);
    }

    /** "of several the least": who is IN, if on nobody alone any fails. */
    private static void p23_ofSeveralTheLeast() {
        RopeTreaty x = new RopeTreaty();
        for (int j = 0; j < 6; j++) {
            x.jumper(0, 50, 0);
        }
        x.jump(3, 1);
        x.jump(5, 1);
        DUE.is("both fail together", x.balks(0), 3);
        DUE.is("how many", x.balks(1), 0);
        x.become(3, 30);
        x.become(5, 30);
        DUE.is("none fails", x.balks(0), 3);
        x.become(5, 0);
        DUE.is("all fail on the last", x.balks(0), 5);
        DUE.is("how many", x.balks(1), 64);
    }

    /** "of several the least": as many on the one as on the other; with one more it is the other. */
    private static void p23_asManyOnBoth() {
        RopeTreaty x = in(0, 50);
        x.jumper(0, 50, 1);
        x.jump(1, 1);
        Due.text(x, 1, "30-(s=0&t<4|s=1&t>59)");
        DUE.is("4 and 4", x.balks(0), 0);
        DUE.is("how many", x.balks(1), 4);
        Due.text(x, 1, "30-(s=0&t<4|s=1&t>58)");
        DUE.is("4 and 5", x.balks(0), 1);
        DUE.is("how many", x.balks(1), 5);
    }

    /** "(all others who are IN LIKE them as much as THE BAR, or more)": one who isn't IN is none of them. */
    private static void p23_othersWhoAreIn() {
        RopeTreaty x = in(0, 50);
        x.become(0, 0);
        x.jumper(0, 50, 0);
        x.jumper(30, 50, 0);
        x.jump(2, 1);
        x.bar(40);
        DUE.is("the second isn't IN", x.balks(1), 64);
        x.jump(1, 1);
        DUE.is("both fail", x.balks(1), 0);
        x.jump(1, 0);
        x.bar(41);
        DUE.is("the CHILD fails at 0, 5, .. 60, too", x.balks(1), 51);
    }

    // ---- promise 24

    /** "a TREATY" (0 .. 63): else "BEYOND". */
    private static void p24_treatyIs0To63() {
        RopeTreaty x = in(3, 50);
        DUE.is("soon(0)", x.soon(0), 0);
        DUE.is("soon(63)", x.soon(63), 0);
        EDGES.outside("soon", Edges::busy, (y, v) -> y.soon(v), 0, 63);
    }

    /** "behind how many BEATS (0 .. 99) first": 0 is now. */
    private static void p24_now() {
        EDGES.unchanged("soon(45)", Edges::busy, x -> x.soon(45), 0);
    }

    /** "somebody is IN": else "NONE", though a TREATY IS TAKEN if nobody is IN. */
    private static void p24_noneIfNobodyIsIn() {
        EDGES.refused("soon(45)", Edges::lonely, x -> x.soon(45), Due.NONE);
        EDGES.refused("soon(45), no JUMPERS", Edges::fresh, x -> x.soon(45), Due.NONE);
    }

    /** "the rope TURNS": else "NONE", for it never does again. */
    private static void p24_noneIfTheRopeStands() {
        EDGES.refused("soon(45)", Edges::still, x -> x.soon(45), Due.NONE);
    }

    /** "the WORD is not PEPPER": a BEAT later. */
    private static void p24_notAtPepper() {
        EDGES.unchanged("soon(45)", Edges::pepper, x -> x.soon(45), 1);
        RopeTreaty x = in(3, 50);
        x.beats(3);
        x.spell(0, 1);
        DUE.is("the rope stands behind PEPPER", x.soon(0), Due.NONE);
        x.spell(0, 2);
        DUE.is("and a BEAT later", x.soon(0), 1);
    }

    /** "IS TAKEN": he who would balk has MISSED, and others are still IN. */
    private static void p24_whenOneHasMissed() {
        RopeTreaty x = in(3, 50);
        x.jumper(0, 1, 0);
        x.jump(1, 1);
        DUE.is("behind two", x.soon(0), 2);
        x.jump(0, 0);
        DUE.is("nobody else is IN", x.soon(0), Due.NONE);
    }

    /** "NONE: not by 99": the last BEAT at which the rope of ARMS of 99 TURNS is 98 behind; it can't be 99. */
    private static void p24_ninetyEightIsTheLast() {
        for (int breath = 70; breath <= 75; breath++) {
            RopeTreaty x = in(3, 99);
            x.jumper(0, breath, 1);
            x.jump(1, 1);
            Due.text(x, 0, "c>1");
            Due.text(x, 1, "!s*99");
            // A CHILD pays nothing, a JUMPER 1 at all WORDS but SALT: 72 till BEAT 97, which is MUSTARD.
            int due = breath == 72 ? 98 : breath > 72 ? Due.NONE : new int[] {96, 96}[breath - 70];
            DUE.is("of BREATH " + breath, x.soon(0), due);
        }
    }

    // ---- promise 25

    /** "m, n (1 .. 30)", else "BEYOND". */
    private static void p25_divisorsAre1To30() {
        EDGES.outside("meets, m", Edges::busy, (x, v) -> x.meets(0, v, 0, 5), 1, 30);
        EDGES.outside("meets, n", Edges::busy, (x, v) -> x.meets(0, 5, 0, v), 1, 30);
        EDGES.beyond("meets, m", Edges::busy, (x, v) -> x.meets(v - 1, v, 0, 5), 0, -1, 31);
        EDGES.beyond("meets, n", Edges::busy, (x, v) -> x.meets(0, 5, v - 1, v), 0, -1, 31);
    }

    /** "a (0 .. m less 1), b (0 .. n less 1)", else "BEYOND". */
    private static void p25_restsAreLessThanDivisors() {
        EDGES.outside("meets, a by 7", Edges::busy, (x, v) -> x.meets(v, 7, 0, 5), 0, 6);
        EDGES.outside("meets, b by 7", Edges::busy, (x, v) -> x.meets(0, 5, v, 7), 0, 6);
        EDGES.outside("meets, a by 1", Edges::busy, (x, v) -> x.meets(v, 1, 0, 5), 0, 0);
        EDGES.outside("meets, b by 1", Edges::busy, (x, v) -> x.meets(0, 5, v, 1), 0, 0);
        EDGES.outside("meets, a by 30", Edges::busy, (x, v) -> x.meets(v, 30, 0, 5), 0, 29);
        EDGES.outside("meets, b by 30", Edges::busy, (x, v) -> x.meets(0, 5, v, 30), 0, 29);
    }

    /** "from now on": BEAT itself is one; one that has gone by isn't. */
    private static void p25_fromNowOn() {
        EDGES.unchanged("6 is now", Edges::busy, x -> x.meets(6, 7, 6, 8), 6);
        EDGES.unchanged("5 was", Edges::busy, x -> x.meets(5, 7, 5, 8), 61);
        EDGES.unchanged("7 is next", Edges::busy, x -> x.meets(0, 7, 7, 8), 7);
        EDGES.unchanged("by 1 and 1", Edges::busy, x -> x.meets(0, 1, 0, 1), 6);
    }

    /** "NONE: there is none": rests that a common divisor parts. */
    private static void p25_noneIfTheyNeverMeet() {
        EDGES.refused("0 by 2, 1 by 2", Edges::busy, x -> x.meets(0, 2, 1, 2), Due.NONE);
        EDGES.refused("0 by 30, 1 by 30", Edges::busy, x -> x.meets(0, 30, 1, 30), Due.NONE);
        EDGES.refused("29 by 30, 0 by 3", Edges::busy, x -> x.meets(29, 30, 0, 3), Due.NONE);
        EDGES.refused("1 by 28, 8 by 21", Edges::busy, x -> x.meets(1, 28, 9, 21), Due.NONE);
        EDGES.unchanged("1 by 28, 8 by 21 do meet", Edges::busy, x -> x.meets(1, 28, 8, 21), 29);
    }

    /** "the first BEAT": the farthest of all, 869 from 0 on. */
    private static void p25_theFarthest() {
        DUE.is("869", new RopeTreaty().meets(29, 30, 28, 29), 869);
        DUE.is("from 1 on", Due.beaten(1).meets(0, 30, 0, 29), 870);
        DUE.is("from 870 on", Due.beaten(870).meets(0, 30, 0, 29), 870);
    }

    // ---- promise 26

    /** "a JUMPER": else "BEYOND". */
    private static void p26_jumperIsOneThatThereIs() {
        EDGES.outside("odds, jumper", Edges::busy, (x, v) -> x.odds(v, 0), 0, 4);
    }

    /** "part 0 above, 1 below the line", else "BEYOND". */
    private static void p26_partIs0Or1() {
        EDGES.outside("odds, part", Edges::busy, (x, v) -> x.odds(0, v), 0, 1);
    }

    /** "(0 is 0 by 1)". */
    private static void p26_zeroIsZeroByOne() {
        EDGES.unchanged("above", EdgesOfThoughtTest::atOdds, x -> x.odds(0, 0), 0);
        EDGES.unchanged("below", EdgesOfThoughtTest::atOdds, x -> x.odds(0, 1), 1);
    }

    /** "a fraction in lowest terms": all 64 are 1 by 1. */
    private static void p26_allIsOneByOne() {
        RopeTreaty x = in(3, 50);
        DUE.is("above", x.odds(0, 0), 1);
        DUE.is("below", x.odds(0, 1), 1);
    }

    /** "a fraction in lowest terms": 1 .. 64 of 64. */
    private static void p26_inLowestTerms() {
        RopeTreaty x = in(0, 50);
        Due.text(x, 1, "t+1");
        for (int bar = 1; bar <= 65; bar++) {
            x.bar(bar);
            int above = 65 - bar;
            int below = 64;
            while (above > 0 && above % 2 == 0 && below % 2 == 0) {
                above /= 2;
                below /= 2;
            }
            DUE.is("above, at " + bar, x.odds(0, 0), above);
            DUE.is("below, at " + bar, x.odds(0, 1), above == 0 ? 1 : below);
        }
    }

    /** "as much as THE BAR, or more": 1 of 64 at 63, none at 64; he needs not be IN. */
    private static void p26_asMuchAsTheBar() {
        RopeTreaty x = new RopeTreaty();
        x.jumper(0, 0, 0);
        Due.text(x, 1, "t");
        x.bar(63);
        DUE.is("above at 63", x.odds(0, 0), 1);
        DUE.is("below at 63", x.odds(0, 1), 64);
        x.bar(64);
        DUE.is("above at 64", x.odds(0, 0), 0);
    }

    // ---- promise 27

    /** "by a SHEET" (0 .. 3): else "BEYOND". */
    private static void p27_sheetIs0To3() {
        EDGES.outside("fits", Edges::busy, (x, v) -> x.fits(v), 0, 3);
        EDGES.outside("fits, all missing", Edges::fresh, (x, v) -> x.fits(v), 0, 3);
    }

    /** "NONE: the SHEET is missing". */
    private static void p27_noneIfItIsMissing() {
        EDGES.refused("fits(3)", Edges::busy, x -> x.fits(3), Due.NONE);
        EDGES.refused("fits(0)", Edges::fresh, x -> x.fits(0), Due.NONE);
    }

    /** "NONE: .. not by 99". */
    private static void p27_noneIfNotBy99() {
        EDGES.refused("fits(0)", Edges::busy, x -> x.fits(0), Due.NONE);
    }

    /** One who rests from 0 and one who pays 1 a BEAT from 99, a SHEET of both. */
    private static RopeTreaty two(int first, int second) {
        RopeTreaty x = new RopeTreaty();
        x.jumper(0, 0, 0);
        x.jumper(30, 99, 0);
        x.jump(1, 1);
        x.sheet(0, 8, 2);
        x.put(0, 0, first);
        x.put(0, 1, second);
        return x;
    }

    /** "behind how many BEATS (0 .. 99)": 0 is now, 99 the last. */
    private static void p27_behind0To99() {
        EDGES.unchanged("now", () -> two(0, 99), x -> x.fits(0), 0);
        EDGES.unchanged("behind 1", () -> two(1, 98), x -> x.fits(0), 1);
        EDGES.unchanged("behind 98", () -> two(98, 1), x -> x.fits(0), 98);
        EDGES.unchanged("behind 99", () -> two(99, 0), x -> x.fits(0), 99);
        EDGES.refused("never", () -> two(99, 1), x -> x.fits(0), Due.NONE);
    }

    /** "first that is so": of several the first. */
    private static void p27_theFirst() {
        RopeTreaty x = new RopeTreaty();
        x.jumper(0, 98, 0);
        x.sheet(0, 8, 1);
        x.put(0, 0, 99);
        DUE.is("99 at most, from 1 on", x.fits(0), 1);
    }

    /** "a SHEET tells BREATH of JUMPERS 0, 1, ..": of none, of the first alone. */
    private static void p27_ofFewerNumbersThanJumpers() {
        RopeTreaty x = two(7, 99);
        x.sheet(1, 32, 0);
        DUE.is("no numbers", x.fits(1), 0);
        x.sheet(1, 32, 1);
        x.put(1, 0, 7);
        DUE.is("one number", x.fits(1), 7);
        DUE.is("no numbers, no JUMPERS", emptySheet().fits(0), 0);
    }

    private static RopeTreaty emptySheet() {
        RopeTreaty x = new RopeTreaty();
        x.sheet(0, 16, 0);
        return x;
    }

    /** "a SHEET tells BREATH of JUMPERS 0, 1, ..": a number for which there is no JUMPER is not so at any BEAT. */
    private static void p27_ofMoreNumbersThanJumpers() {
        RopeTreaty x = two(0, 99);
        x.sheet(1, 8, 3);
        x.put(1, 1, 99);
        DUE.is("0, 99, 0", x.fits(1), Due.NONE);
        x.jumper(0, 0, 0);
        DUE.is("with a third JUMPER", x.fits(1), 0);
        RopeTreaty y = new RopeTreaty();
        y.sheet(0, 8, 1);
        DUE.is("0, no JUMPERS", y.fits(0), Due.NONE);
        for (int j = 0; j < 6; j++) {
            y.jumper(0, 99, 0);
        }
        y.sheet(0, 8, 24);
        for (int i = 0; i < 24; i++) {
            y.put(0, i, 99);
        }
        DUE.is("24 numbers, six JUMPERS", y.fits(0), Due.NONE);
    }

    /** "a SHEET tells BREATH": a number that is no BREATH is never so. */
    private static void p27_numbersThatAreNoBreath() {
        RopeTreaty x = two(0, 99);
        x.sheet(1, 32, 1);
        for (int v : new int[] {-1, 100, 256, Edges.MIN, Edges.MAX}) {
            x.put(1, 0, v);
            DUE.is("of " + v, x.fits(1), Due.NONE);
        }
    }
}
