/** The edges that the Terms name: ERRORS and section 1; those of sections 2 to 4 stand with their promises. */
public final class EdgesOfTermsTest {
    private static final Due DUE = new Due("EdgesOfTermsTest");

    public static void main(String[] args) {
        Edges.run(EdgesOfTermsTest.class, DUE);
    }

    /** A rope with one of a KIND and m 7, SIDE 1, BREATH 50, as so many BEATS have gone by. */
    private static RopeTreaty one(int kind, int beats) {
        RopeTreaty x = Due.beaten(beats);
        x.jumper(10 * kind + 7, 50, 1);
        return x;
    }

    // ---- ERRORS

    /** "LOW is -1000000000; LOW - 1 BEYOND". */
    private static void e_beyondIsLowLess1() {
        DUE.is("bar(100)", new RopeTreaty().bar(100), -1000000001);
    }

    /** "LOW - 2 NONE". */
    private static void e_noneIsLowLess2() {
        DUE.is("restore()", new RopeTreaty().restore(), -1000000002);
    }

    /** "LOW - 3 STATE". */
    private static void e_stateIsLowLess3() {
        DUE.is("fairest(0)", new RopeTreaty().fairest(0), -1000000003);
    }

    /** "LOW - 4 FULL". */
    private static void e_fullIsLowLess4() {
        RopeTreaty x = new RopeTreaty();
        for (int i = 0; i < 6; i++) {
            x.jumper(0, 0, 0);
        }
        DUE.is("jumper, a seventh", x.jumper(0, 0, 0), -1000000004);
    }

    /** "LOW - 5 KIND". */
    private static void e_kindIsLowLess5() {
        DUE.is("as(0, 1)", one(0, 0).as(0, 1), -1000000005);
    }

    /** "LOW - 6 PARTED". */
    private static void e_partedIsLowLess6() {
        RopeTreaty x = new RopeTreaty();
        x.jumper(0, 0, 0);
        DUE.is("voice(0, 3, 1)", x.voice(0, 3, 1), -1000000006);
    }

    /** "ERRORS are answers below -1000000000": such an answer that is any number is none, and is not told. */
    private static void e_anyNumberIsNoError() {
        RopeTreaty x = one(0, 0);
        for (int k = 1; k <= 6; k++) {
            x.seed(-1000000000 - k);
            DUE.is("count(11)", x.count(11), -1000000000 - k);
            DUE.is("voice", x.voice(0, 0, -1000000000 - k), -1000000000 - k);
        }
        x.seed(0);
        for (int k = 1; k <= 6; k++) {
            DUE.is("told(" + k + ")", x.told(k), 0);
        }
    }

    /** "An object is used for at most 512 calls": the last of them is answered as the first. */
    private static void e_512Calls() {
        RopeTreaty x = new RopeTreaty();
        for (int call = 1; call <= 511; call++) {
            DUE.is("call " + call, x.told(0), Due.BEYOND);
        }
        DUE.is("call 512", x.told(1), 511);
    }

    /** "Quotients are cut toward 0": of texts. */
    private static void e_quotientsOfTextsAreCutTowardZero() {
        RopeTreaty x = new RopeTreaty();
        Due.text(x, 1, "50+l/t");
        DUE.is("7 / 2", x.law(1, 7, 2, 0), 53);
        DUE.is("-7 / 2", x.law(1, -7, 2, 0), 47);
        DUE.is("7 / -2", x.law(1, 7, -2, 0), 47);
        DUE.is("-7 / -2", x.law(1, -7, -2, 0), 53);
        DUE.is("-1 / 2", x.law(1, -1, 2, 0), 50);
    }

    /** "Quotients are cut toward 0": of voices. */
    private static void e_quotientsOfVoicesAreCutTowardZero() {
        RopeTreaty x = one(0, 0);
        DUE.is("parts, 13 by 7", x.voice(0, 3, 13), 1);
        DUE.is("parts, -13 by 7", x.voice(0, 3, -13), -1);
        DUE.is("parts, -6 by 7", x.voice(0, 3, -6), 0);
        x.become(0, 30);
        DUE.is("a child claps half of -1", x.voice(0, 2, -1), 0);
        DUE.is("a child claps half of -3", x.voice(0, 2, -3), -2);
    }

    // ---- BEAT, WORD

    /** "BEAT (0 .. 99999; 0 at first)": at first. */
    private static void s1_beatIsZeroAtFirst() {
        DUE.is("count(2)", new RopeTreaty().count(2), 0);
    }

    /**
     * "BEAT (0 .. 99999 ..)": its last. 512 calls do not come so far, and what later ones answer is free; this one
     * class keeps to the sentence there, too.
     */
    private static void s1_beatIsAtMost99999() {
        RopeTreaty x = Due.beaten(99999);
        DUE.is("count(2)", x.count(2), 99999);
        DUE.is("one more", x.beats(1), Due.STATE);
        DUE.is("count(2) still", x.count(2), 99999);
    }

    /** "its WORD is the rest by 4: 0 SALT .. 3 PEPPER": the rest goes round behind 3. */
    private static void s1_wordIsTheRestByFour() {
        for (int beat = 0; beat <= 8; beat++) {
            DUE.is("what a JUMPER TAKES at BEAT " + beat, one(0, beat).jumperIs(0, 5), 1 + beat % 4);
        }
    }

    // ---- ARMS

    /** "ARMS .. 0 and 1 (.. 99 at first)". */
    private static void s1_armsAre99AtFirst() {
        DUE.is("count(5)", new RopeTreaty().count(5), 99);
        DUE.is("count(6)", new RopeTreaty().count(6), 99);
    }

    /** "ARMS (0 .. 99 ..)": the least, which no BEAT goes below. */
    private static void s1_armsAreAtLeastZero() {
        RopeTreaty x = new RopeTreaty();
        x.spell(0, 1);
        x.spell(1, 3);
        x.beats(5);
        DUE.is("count(5)", x.count(5), 0);
        DUE.is("count(6)", x.count(6), 2);
    }

    /** "the rope TURNS, if both are above 0": 1 and 1 are. */
    private static void s1_ropeTurnsByArmsOfOne() {
        RopeTreaty x = one(0, 0);
        x.spell(0, 1);
        x.spell(1, 1);
        DUE.is("jump(0, 1)", x.jump(0, 1), 0);
    }

    /** "the rope TURNS, if both are above 0": not if one is 0, or the other, or both. */
    private static void s1_ropeStandsIfAnArmIsZero() {
        int[][] arms = {{0, 99}, {99, 0}, {0, 0}, {0, 1}, {1, 0}};
        for (int[] arm : arms) {
            RopeTreaty x = one(0, 0);
            x.spell(0, arm[0]);
            x.spell(1, arm[1]);
            DUE.is("jump(0, 1) by arms " + arm[0] + ", " + arm[1], x.jump(0, 1), Due.STATE);
        }
    }

    // ---- TREATIES, THE BAR, MISSES

    /** "TREATIES are numbers 0 .. 63, each with marks 0 .. 5 (bits)": 0 has none of them, 63 all. */
    private static void s1_treatiesAre0To63() {
        RopeTreaty x = new RopeTreaty();
        Due.text(x, 1, "t");
        x.jumper(0, 0, 0);
        DUE.is("liking(0, 0)", x.liking(0, 0), 0);
        DUE.is("liking(0, 63)", x.liking(0, 63), 63);
        DUE.is("liking(0, 64)", x.liking(0, 64), Due.BEYOND);
        DUE.is("liking(0, -1)", x.liking(0, -1), Due.BEYOND);
        DUE.is("how many there are", x.agree(0), 64);
    }

    /** "THE TREATY (-1: none, as at first)". */
    private static void s1_noTreatyAtFirst() {
        RopeTreaty x = new RopeTreaty();
        DUE.is("count(3)", x.count(3), -1);
        DUE.is("no ERROR", x.told(1) + x.told(2), 0);
    }

    /** "THE TREATY": 0, the least, is one; 63, the greatest, is one. */
    private static void s1_theTreatyIsZeroOr63() {
        RopeTreaty x = one(0, 0);
        x.bar(0);
        x.jump(0, 1);
        DUE.is("talk(0, 0)", x.talk(0, 0), 1);
        DUE.is("count(3)", x.count(3), 0);
        DUE.is("talk(0, 63)", x.talk(0, 63), 1);
        DUE.is("count(3)", x.count(3), 63);
    }

    /** "THE BAR (0 .. 99; 30 at first)": at first. */
    private static void s1_barIs30AtFirst() {
        DUE.is("count(7)", new RopeTreaty().count(7), 30);
    }

    /** "THE BAR (0 .. 99 ..)": at 0 all ARE TAKEN, at 99 what is liked by 99. */
    private static void s1_barIs0To99() {
        RopeTreaty x = one(0, 0);
        x.jump(0, 1);
        Due.text(x, 1, "t+36");
        DUE.is("bar(0)", x.bar(0), 30);
        DUE.is("agree(0)", x.agree(0), 64);
        DUE.is("bar(99)", x.bar(99), 0);
        DUE.is("agree(0)", x.agree(0), 1);
        DUE.is("agree(1)", x.agree(1), 63);
    }

    /** "MISSES (0 .. 99999; 0 at first)": at first. */
    private static void s1_missesAreZeroAtFirst() {
        DUE.is("count(4)", new RopeTreaty().count(4), 0);
    }

    /**
     * "MISSES are as many more (held at 99999)". 512 calls do not come so far, and what later ones answer is free;
     * this one class keeps to the sentence there, too.
     */
    private static void s1_missesAreHeldAt99999() {
        RopeTreaty x = new RopeTreaty();
        Due.text(x, 0, "20");
        for (int j = 0; j < 6; j++) {
            x.jumper(0, 0, 0);
        }
        for (int six = 0; six < 16666; six++) {
            allMiss(x);
        }
        DUE.is("16666 times 6", x.count(4), 99996);
        DUE.is("the last six MISS", allMiss(x), 6);
        DUE.is("held", x.count(4), 99999);
        DUE.is("and six more", allMiss(x), 6);
        DUE.is("held still", x.count(4), 99999);
    }

    private static int allMiss(RopeTreaty x) {
        x.spell(0, 99);
        x.spell(1, 99);
        for (int j = 0; j < 6; j++) {
            x.rest(j, 0);
            x.jump(j, 1);
        }
        return x.beats(1);
    }

    // ---- JUMPERS

    /** "JUMPERS 0, 1, .. (at most 6)": the first is 0, the last 5. */
    private static void s1_atMostSixJumpers() {
        RopeTreaty x = new RopeTreaty();
        for (int i = 0; i < 6; i++) {
            DUE.is("jumper", x.jumper(0, 0, 0), i);
        }
        DUE.is("a seventh", x.jumper(0, 0, 0), Due.FULL);
        DUE.is("how many", x.count(0), 6);
    }

    /** "of KINDS: 0 JUMPER .. 6 OLD": the first and the last. */
    private static void s1_kindsAre0To6() {
        RopeTreaty x = new RopeTreaty();
        x.jumper(0, 0, 0);
        x.jumper(69, 0, 0);
        DUE.is("the first", x.jumperIs(0, 0), 0);
        DUE.is("the last", x.jumperIs(1, 0), 6);
    }

    /** "a number m (0 .. 9)": the least and the greatest of every KIND. */
    private static void s1_mIs0To9() {
        RopeTreaty x = one(0, 0);
        for (int kind = 0; kind <= 6; kind++) {
            x.become(0, 10 * kind);
            DUE.is("kind " + kind + ", least m", 10 * x.jumperIs(0, 0) + x.jumperIs(0, 1), 10 * kind);
            x.become(0, 10 * kind + 9);
            DUE.is("kind " + kind + ", greatest m", 10 * x.jumperIs(0, 0) + x.jumperIs(0, 1), 10 * kind + 9);
        }
    }

    /** "BREATH (0 .. 99), a SIDE (0, 1)": the least and the greatest. */
    private static void s1_breathIs0To99AndSides0And1() {
        RopeTreaty x = new RopeTreaty();
        x.jumper(0, 0, 0);
        x.jumper(0, 99, 1);
        DUE.is("least BREATH", x.jumperIs(0, 2), 0);
        DUE.is("greatest BREATH", x.jumperIs(1, 2), 99);
        DUE.is("SIDE 0", x.jumperIs(0, 3), 0);
        DUE.is("SIDE 1", x.jumperIs(1, 3), 1);
    }

    /** "IN (1) or not (0, at first)". */
    private static void s1_nobodyIsInAtFirst() {
        RopeTreaty x = one(0, 0);
        DUE.is("jumperIs(0, 4)", x.jumperIs(0, 4), 0);
        DUE.is("count(1)", x.count(1), 0);
    }

    // ---- TAKES

    /** "JUMPER: 1, and the WORD": 1 at SALT, 4 at PEPPER; "CON: as JUMPER". */
    private static void s1_jumperAndConTake1To4() {
        DUE.is("JUMPER at SALT", one(0, 0).jumperIs(0, 5), 1);
        DUE.is("JUMPER at PEPPER", one(0, 3).jumperIs(0, 5), 4);
        DUE.is("CON at SALT", one(2, 0).jumperIs(0, 5), 1);
        DUE.is("CON at PEPPER", one(2, 3).jumperIs(0, 5), 4);
    }

    /** "MASTER: as JUMPER, and 1". */
    private static void s1_masterTakes2To5() {
        DUE.is("at SALT", one(1, 0).jumperIs(0, 5), 2);
        DUE.is("at PEPPER", one(1, 3).jumperIs(0, 5), 5);
    }

    /** "CHILD: 1": at PEPPER, too. */
    private static void s1_childTakes1() {
        DUE.is("at SALT", one(3, 0).jumperIs(0, 5), 1);
        DUE.is("at PEPPER", one(3, 3).jumperIs(0, 5), 1);
    }

    /** "BAILIFF: as MASTER, and how many are IN": from none to all six. */
    private static void s1_bailiffTakesHowManyAreInMore() {
        RopeTreaty x = one(4, 3);
        for (int j = 1; j < 6; j++) {
            x.jumper(0, 50, 0);
        }
        for (int in = 0; in <= 6; in++) {
            DUE.is(in + " are IN", x.jumperIs(0, 5), 5 + in);
            x.jump(5 - in, 1);
        }
    }

    /** "RUNNER: half of CON's (cut)": 0 of 1 at SALT, 1 of 3 at VINEGAR, 2 of 4 at PEPPER. */
    private static void s1_runnerTakesHalfCut() {
        int[] due = {0, 1, 1, 2};
        for (int word = 0; word < 4; word++) {
            DUE.is("at WORD " + word, one(5, word).jumperIs(0, 5), due[word]);
        }
    }

    /** "OLD: twice JUMPER's". */
    private static void s1_oldTakesTwice() {
        DUE.is("at SALT", one(6, 0).jumperIs(0, 5), 2);
        DUE.is("at PEPPER", one(6, 3).jumperIs(0, 5), 8);
    }

    // ---- LEANS

    /** "10 times how many bits are 1 both in t and in 7 times m and 9": for the least m, 9, and for none in t. */
    private static void s1_jumperLeansByBitsOfNine() {
        RopeTreaty x = new RopeTreaty();
        x.jumper(0, 0, 0);
        int[][] due = {{0, 0}, {1, 10}, {2, 0}, {4, 0}, {8, 10}, {9, 20}, {16, 0}, {32, 0}, {54, 0}, {63, 20}};
        for (int[] d : due) {
            DUE.is("liking(0, " + d[0] + ")", x.liking(0, d[0]), d[1]);
        }
    }

    /** ".. 7 times m and 9": of m 8 and 9 it is 65 and 72, of which a TREATY has no bit 6. */
    private static void s1_jumperLeansByBitsBelow64() {
        RopeTreaty x = new RopeTreaty();
        x.jumper(8, 0, 0);
        x.jumper(9, 0, 0);
        DUE.is("m 8, TREATY 63", x.liking(0, 63), 10);
        DUE.is("m 8, TREATY 1", x.liking(0, 1), 10);
        DUE.is("m 8, TREATY 62", x.liking(0, 62), 0);
        DUE.is("m 9, TREATY 63", x.liking(1, 63), 10);
        DUE.is("m 9, TREATY 8", x.liking(1, 8), 10);
        DUE.is("m 9, TREATY 55", x.liking(1, 55), 0);
    }

    /** "MASTER: 60 less JUMPER's": from 60 to 20. */
    private static void s1_masterLeans60To20() {
        RopeTreaty x = one(1, 0);
        DUE.is("none of 58", x.liking(0, 5), 60);
        DUE.is("all of 58", x.liking(0, 58), 20);
    }

    /** "CON: as JUMPER, and 5 times his SIDE": 0 and 5. */
    private static void s1_conLeansBySide() {
        RopeTreaty x = new RopeTreaty();
        x.jumper(27, 0, 0);
        x.jumper(27, 0, 1);
        DUE.is("SIDE 0", x.liking(0, 58), 40);
        DUE.is("SIDE 1", x.liking(1, 58), 45);
        DUE.is("SIDE 0, none of 58", x.liking(0, 0), 0);
        DUE.is("SIDE 1, none of 58", x.liking(1, 0), 5);
    }

    /** "CHILD: 40, and the rest of t by 5": 44 at most, 40 again behind it. */
    private static void s1_childLeansByTheRestByFive() {
        RopeTreaty x = one(3, 0);
        int[][] due = {{0, 40}, {1, 41}, {4, 44}, {5, 40}, {59, 44}, {60, 40}, {63, 43}};
        for (int[] d : due) {
            DUE.is("liking(0, " + d[0] + ")", x.liking(0, d[0]), d[1]);
        }
    }

    /** "BAILIFF: as MASTER, less 10": from 50 to 10. */
    private static void s1_bailiffLeans50To10() {
        RopeTreaty x = one(4, 0);
        DUE.is("none of 58", x.liking(0, 5), 50);
        DUE.is("all of 58", x.liking(0, 58), 10);
    }

    /** "RUNNER: as CON, and the rest of BEAT by 7": 6 at most, 0 again behind it. */
    private static void s1_runnerLeansByTheRestBySeven() {
        for (int beat = 0; beat <= 14; beat++) {
            DUE.is("at BEAT " + beat, one(5, beat).liking(0, 58), 45 + beat % 7);
        }
    }

    /** "OLD: half of JUMPER's (cut), and m". */
    private static void s1_oldLeansByHalfAndM() {
        RopeTreaty x = new RopeTreaty();
        x.jumper(60, 0, 0);
        x.jumper(69, 0, 0);
        DUE.is("m 0, none", x.liking(0, 0), 0);
        DUE.is("m 0, one bit", x.liking(0, 1), 5);
        DUE.is("m 0, two bits", x.liking(0, 9), 10);
        DUE.is("m 9, none", x.liking(1, 55), 9);
        DUE.is("m 9, one bit", x.liking(1, 8), 14);
    }

    // ---- IS TAKEN

    /** "A TREATY IS TAKEN, if all who are IN LIKE it as much as THE BAR or more": as much is enough, 1 less isn't. */
    private static void s1_takenAtTheBar() {
        RopeTreaty x = one(3, 0);
        x.jump(0, 1);
        x.bar(43);
        DUE.is("liked by 43", x.talk(0, 3), 1);
        DUE.is("liked by 44", x.talk(0, 4), 1);
        DUE.is("liked by 42", x.talk(0, 2), 0);
    }

    /** ".. all who are IN": one of six who LIKES it less is enough; one who isn't IN is not asked. */
    private static void s1_takenByAllWhoAreIn() {
        for (int against = 0; against < 6; against++) {
            RopeTreaty x = new RopeTreaty();
            for (int j = 0; j < 6; j++) {
                x.jumper(j == against ? 0 : 30, 50, 0);
                x.jump(j, 1);
            }
            int speaker = (against + 1) % 6;
            DUE.is(against + " is against it", x.talk(speaker, 0), 0);
            DUE.is("no TREATY IS TAKEN", x.agree(0), 0);
            x.jump(against, 0);
            DUE.is(against + " isn't IN", x.talk(speaker, 0), 1);
        }
    }

    /** "(also if nobody is IN)": at every BAR, without JUMPERS and with them. */
    private static void s1_takenIfNobodyIsIn() {
        RopeTreaty x = new RopeTreaty();
        x.bar(99);
        DUE.is("no JUMPERS", x.agree(0), 64);
        x.jumper(0, 50, 0);
        DUE.is("one who isn't IN", x.agree(0), 64);
    }

    // ---- a BEAT goes by

    /** "one who isn't IN has 1 more BREATH (99 at most)". */
    private static void s1_breathIs99AtMost() {
        RopeTreaty x = new RopeTreaty();
        x.jumper(0, 97, 0);
        x.jumper(0, 98, 0);
        x.jumper(0, 99, 0);
        x.beats(1);
        DUE.is("97", x.jumperIs(0, 2), 98);
        DUE.is("98", x.jumperIs(1, 2), 99);
        DUE.is("99", x.jumperIs(2, 2), 99);
        x.beats(98);
        DUE.is("99 BEATS later", x.jumperIs(0, 2), 99);
    }

    /** "one who is, and has less than it COSTS, MISSES: he isn't IN any more": his BREATH stays. */
    private static void s1_missesWithLessThanItCosts() {
        RopeTreaty x = one(0, 3);
        x.rest(0, 3);
        x.jump(0, 1);
        DUE.is("3 of 4", x.beats(1), 1);
        DUE.is("he isn't IN", x.jumperIs(0, 4), 0);
        DUE.is("BREATH", x.jumperIs(0, 2), 3);
        DUE.is("MISSES", x.count(4), 1);
    }

    /** ".. has less than it COSTS": as much is enough, and none is left. */
    private static void s1_jumpsWithAsMuchAsItCosts() {
        RopeTreaty x = one(0, 3);
        x.rest(0, 4);
        x.jump(0, 1);
        DUE.is("4 of 4", x.beats(1), 0);
        DUE.is("he is IN", x.jumperIs(0, 4), 1);
        DUE.is("BREATH", x.jumperIs(0, 2), 0);
        DUE.is("MISSES", x.count(4), 0);
    }

    /** ".. less than it COSTS": nobody has less than 0. */
    private static void s1_nobodyMissesWhatCostsZero() {
        RopeTreaty x = one(5, 0);
        x.rest(0, 0);
        x.jump(0, 1);
        DUE.is("a RUNNER at SALT", x.beats(1), 0);
        DUE.is("he is IN", x.jumperIs(0, 4), 1);
        DUE.is("at MUSTARD he MISSES", x.beats(1), 1);
    }

    /** ".. MISSES: he isn't IN any more; else ..": from the BEAT behind on he has 1 more BREATH. */
    private static void s1_oneWhoMissedRestsFromTheNextBeatOn() {
        RopeTreaty x = one(0, 0);
        x.rest(0, 0);
        x.jump(0, 1);
        x.beats(1);
        DUE.is("the BEAT in which he MISSED", x.jumperIs(0, 2), 0);
        x.beats(1);
        DUE.is("the next", x.jumperIs(0, 2), 1);
    }

    /** "what it COSTS each is as the BEAT begins": that one ahead of him MISSES does not matter, as p or as IN. */
    private static void s1_costsAreAsTheBeatBegins() {
        RopeTreaty x = new RopeTreaty();
        x.jumper(0, 0, 0);
        x.jumper(40, 50, 0);
        x.jump(0, 1);
        x.jump(1, 1);
        x.beats(1);
        DUE.is("the BAILIFF paid for two", x.jumperIs(1, 2), 46);
        Due.text(x, 0, "p*10");
        x.jump(0, 1);
        x.rest(0, 0);
        x.rest(1, 20);
        DUE.is("one MISSES", x.beats(1), 1);
        DUE.is("20 of 20 are paid", x.jumperIs(1, 2), 0);
    }

    /** "if the rope TURNS: ..": if not, nobody rests or MISSES, ARMS stay; "BEAT is 1 more" all the same. */
    private static void s1_stillRopeLetsOnlyBeatGoBy() {
        RopeTreaty x = one(0, 0);
        x.jumper(0, 0, 0);
        x.jump(1, 1);
        x.spell(0, 0);
        DUE.is("beats(2)", x.beats(2), 0);
        DUE.is("BREATH of one who isn't IN", x.jumperIs(0, 2), 50);
        DUE.is("BREATH of one who is", x.jumperIs(1, 2), 0);
        DUE.is("he is still IN", x.jumperIs(1, 4), 1);
        DUE.is("ARM 0", x.count(5), 0);
        DUE.is("ARM 1", x.count(6), 99);
        DUE.is("MISSES", x.count(4), 0);
        DUE.is("BEAT", x.count(2), 2);
    }

    /** "then both ARMS are 1 less": a BEAT by an ARM of 1 turns, the next doesn't. */
    private static void s1_lastBeatThatTurnsHasAnArmOfOne() {
        RopeTreaty x = one(0, 0);
        x.spell(1, 1);
        x.beats(1);
        DUE.is("he rested", x.jumperIs(0, 2), 51);
        DUE.is("ARM 1", x.count(6), 0);
        x.beats(1);
        DUE.is("he did not rest", x.jumperIs(0, 2), 51);
        DUE.is("ARM 0", x.count(5), 98);
    }

    /** "MISSES are as many more": all six in one BEAT. */
    private static void s1_allSixMissInOneBeat() {
        RopeTreaty x = new RopeTreaty();
        for (int j = 0; j < 6; j++) {
            x.jumper(0, 0, 0);
            x.jump(j, 1);
        }
        DUE.is("beats(1)", x.beats(1), 6);
        DUE.is("MISSES", x.count(4), 6);
        DUE.is("nobody is IN", x.count(1), 0);
    }

    // ---- BY DRAWS

    /** "if there are JUMPERS, two draws": without any there is no draw; "then a BEAT" all the same. */
    private static void s1_noDrawsWithoutJumpers() {
        RopeTreaty x = new RopeTreaty();
        DUE.is("loose(2)", x.loose(2), 0);
        DUE.is("z", x.count(11), 1);
        DUE.is("BEAT", x.count(2), 2);
        DUE.is("ARM 0", x.count(5), 97);
    }

    /** "two draws: .. IN, if the rope TURNS": in a still rope there are two draws, too, and nobody comes IN. */
    private static void s1_stillRopeDrawsButNobodyComesIn() {
        RopeTreaty x = one(0, 0);
        x.bar(0);
        x.spell(0, 0);
        DUE.is("loose(1)", x.loose(1), 0);
        DUE.is("z", x.count(11), -1770082073);
        DUE.is("nobody is IN", x.count(1), 0);
        DUE.is("BEAT", x.count(2), 1);
    }

    /** "if he is IN, the rope TURNS, ..": one who is IN already takes no TREATY in a still rope. */
    private static void s1_stillRopeTakesNoTreaty() {
        RopeTreaty x = one(0, 0);
        x.bar(0);
        x.jump(0, 1);
        x.spell(1, 0);
        DUE.is("loose(1)", x.loose(1), 0);
        DUE.is("THE TREATY", x.count(3), -1);
        DUE.is("he stays IN", x.count(1), 1);
    }

    /** ".. the WORD is not PEPPER": at PEPPER he comes IN, but no TREATY is taken. */
    private static void s1_noTreatyByDrawsAtPepper() {
        RopeTreaty x = one(0, 3);
        x.bar(0);
        DUE.is("loose(1)", x.loose(1), 0);
        DUE.is("THE TREATY", x.count(3), -1);
        DUE.is("he is IN", x.count(1), 1);
    }

    /** ".. the TREATY that is the second one's rest by 64 IS TAKEN": 48, which one LIKES by 10; THE BAR 10, and 11. */
    private static void s1_treatyByDrawsAtTheBar() {
        // m 1: 7 * 1 + 9 is 16; from z 1 on the second draw gives 9862832, by 64 it leaves 48, which is 32 and 16.
        for (int bar = 9; bar <= 11; bar++) {
            RopeTreaty x = new RopeTreaty();
            x.jumper(1, 50, 0);
            x.bar(bar);
            DUE.is("loose(1) at a BAR of " + bar, x.loose(1), bar <= 10 ? 1 : 0);
            DUE.is("THE TREATY", x.count(3), bar <= 10 ? 48 : -1);
        }
    }

    /** "the first one's rest by how many there are": 0 by one; of six the draw 4310654 leaves 2. */
    private static void s1_whoIsDrawn() {
        int[] due = {0, 0, 2, 2, 4, 2};
        for (int n = 1; n <= 6; n++) {
            RopeTreaty x = new RopeTreaty();
            for (int j = 0; j < n; j++) {
                x.jumper(0, 50, 0);
            }
            x.loose(1);
            DUE.is("of " + n, x.count(1), 1 << due[n - 1]);
        }
    }

    /** "z is told (1 at first)". */
    private static void s1_zIsOneAtFirst() {
        DUE.is("count(11)", new RopeTreaty().count(11), 1);
    }

    /** "each makes it z * 1103515245 + 12345 (an int)": it wraps, from the greatest and the least, too. */
    private static void s1_drawsWrap() {
        int[] seeds = {0, 1, -1, Edges.MAX, Edges.MIN, 12345, -1103515245};
        for (int seed : seeds) {
            long z = seed;
            for (int draw = 0; draw < 2; draw++) {
                // In longs, then cut to 32 bits by floorMod: another way than an int's own wrap.
                z = Math.floorMod(z * 1103515245L + 12345L, 1L << 32);
            }
            RopeTreaty x = one(0, 0);
            x.seed(seed);
            x.loose(1);
            DUE.is("z from " + seed, x.count(11), z >= 1L << 31 ? z - (1L << 32) : z);
        }
    }

    /** "and gives z >>> 8": of a z below 0 a draw is 0 or more, so there is one who is drawn, and a TREATY. */
    private static void s1_drawsAreNeverBelowZero() {
        for (int seed = -40; seed < 40; seed++) {
            RopeTreaty x = new RopeTreaty();
            for (int j = 0; j < 5; j++) {
                x.jumper(0, 50, 0);
            }
            x.bar(0);
            x.seed(seed);
            DUE.is("taken from " + seed, x.loose(1), 1);
            long first = Math.floorMod(seed * 1103515245L + 12345L, 1L << 32);
            long second = Math.floorMod(first * 1103515245L + 12345L, 1L << 32);
            DUE.is("who from " + seed, x.count(1), 1 << first / 256 % 5);
            DUE.is("which from " + seed, x.count(3), second / 256 % 64);
        }
    }

    /** "he is IN .. then a BEAT": one who comes IN by a draw with less BREATH than it COSTS MISSES in that BEAT. */
    private static void s1_oneDrawnMayMissAtOnce() {
        RopeTreaty x = one(0, 0);
        x.rest(0, 0);
        x.bar(0);
        DUE.is("loose(1)", x.loose(1), 1);
        DUE.is("he isn't IN", x.count(1), 0);
        DUE.is("MISSES", x.count(4), 1);
        DUE.is("THE TREATY", x.count(3), 48);
    }
}
