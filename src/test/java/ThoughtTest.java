/** Promises 19 to 27: what is, what would be. */
public final class ThoughtTest {
    private static final Due DUE = new Due("ThoughtTest");

    public static void main(String[] args) {
        then();
        lasts();
        agree();
        fairest();
        balks();
        soon();
        soonByBeat();
        meets();
        odds();
        fits();
        onlyThought();
        DUE.end();
    }

    private static void then() {
        RopeTreaty x = new RopeTreaty();
        x.jumper(0, 3, 0);
        x.jump(0, 1);
        int[] breath = {3, 2, 0, 0, 1};
        for (int n = 0; n < 5; n++) {
            DUE.is("then(0, " + n + ", 0)", x.then(0, n, 0), breath[n]);
            DUE.is("then(0, " + n + ", 1)", x.then(0, n, 1), n < 3 ? 1 : 0);
        }
        // He misses in the third of 99 beats that turn; 96 are left.
        DUE.is("then(0, 99, 0)", x.then(0, 99, 0), 96);
        DUE.is("then n 100", x.then(0, 100, 0), Due.BEYOND);
        DUE.is("then n -1", x.then(0, -1, 0), Due.BEYOND);
        DUE.is("then what 2", x.then(0, 1, 2), Due.BEYOND);
        DUE.is("then what -1", x.then(0, 1, -1), Due.BEYOND);
        DUE.is("then jumper 1", x.then(1, 1, 0), Due.BEYOND);
        DUE.is("then jumper -1", x.then(-1, 1, 0), Due.BEYOND);
        x.spell(0, 1);
        DUE.is("one beat turns", x.then(0, 99, 0), 2);
        DUE.is("he is still in", x.then(0, 99, 1), 1);
    }

    private static void lasts() {
        RopeTreaty x = new RopeTreaty();
        x.jumper(0, 3, 0);
        x.jumper(30, 98, 0);
        x.jumper(30, 99, 0);
        x.jumper(30, 0, 0);
        for (int j = 0; j < 4; j++) {
            x.jump(j, 1);
        }
        DUE.is("lasts(0)", x.lasts(0), 3);
        DUE.is("lasts(1), in the last beat", x.lasts(1), 99);
        DUE.is("lasts(2), longer", x.lasts(2), Due.NONE);
        DUE.is("lasts(3), in the first beat", x.lasts(3), 1);
        DUE.is("lasts(4)", x.lasts(4), Due.BEYOND);
        DUE.is("lasts(-1)", x.lasts(-1), Due.BEYOND);
        x.jump(3, 0);
        DUE.is("lasts of one who isn't in", x.lasts(3), Due.STATE);
        x.spell(0, 2);
        DUE.is("the rope stands first", x.lasts(0), Due.NONE);
        DUE.is("told NONE", x.told(2), 2);
        DUE.is("told STATE", x.told(3), 1);
    }

    private static void agree() {
        RopeTreaty x = new RopeTreaty();
        DUE.is("nobody in", x.agree(0), 64);
        DUE.is("the least", x.agree(1), 0);
        x.jumper(5, 9, 0);
        x.jump(0, 1);
        // 44 has three bits: all three give 30, in 8 treaties, of which 44 is the least.
        DUE.is("one in", x.agree(0), 8);
        DUE.is("the least then", x.agree(1), 44);
        x.bar(20);
        // Two of three bits or all three: 4 by 8; 12 is the least.
        DUE.is("a bar of 20", x.agree(0), 32);
        DUE.is("the least at 20", x.agree(1), 12);
        x.bar(31);
        DUE.is("none", x.agree(0), 0);
        DUE.is("no least", x.agree(1), Due.NONE);
        DUE.is("agree(2)", x.agree(2), Due.BEYOND);
        DUE.is("agree(-1)", x.agree(-1), Due.BEYOND);
        x.spell(0, 0);
        x.bar(30);
        DUE.is("in a still rope, too", x.agree(0), 8);
    }

    private static void fairest() {
        RopeTreaty x = new RopeTreaty();
        x.jumper(5, 9, 0);
        x.jumper(13, 9, 0);
        DUE.is("nobody in", x.fairest(0), Due.STATE);
        DUE.is("BEYOND ahead of STATE", x.fairest(2), Due.BEYOND);
        x.jump(0, 1);
        DUE.is("one in", x.fairest(0), 44);
        DUE.is("how much", x.fairest(1), 30);
        x.jump(1, 1);
        // 44 is 30 to 0; to 1 it is 60 less 10 by bits of 30 in 44 (8, 4), so 40: 30 is the least of both.
        DUE.is("two in", x.fairest(0), 44);
        DUE.is("how much of two", x.fairest(1), 30);
        Due.text(x, 1, "0");
        DUE.is("all alike: the least", x.fairest(0), 0);
        DUE.is("all alike: how much", x.fairest(1), 0);
        Due.text(x, 1, "999");
        DUE.is("all held alike: the least", x.fairest(0), 0);
        DUE.is("all held alike: how much", x.fairest(1), 99);
        Due.text(x, 1, "t");
        DUE.is("the last", x.fairest(0), 63);
        DUE.is("fairest(-1)", x.fairest(-1), Due.BEYOND);
    }

    private static void balks() {
        RopeTreaty x = new RopeTreaty();
        x.jumper(0, 9, 0);
        x.jumper(0, 9, 1);
        x.jumper(0, 9, 1);
        DUE.is("nobody in", x.balks(0), Due.STATE);
        DUE.is("BEYOND ahead of STATE", x.balks(-1), Due.BEYOND);
        DUE.is("balks(2)", x.balks(2), Due.BEYOND);
        // Of side 0 one fails below 10, of side 1 from 60 on (60 .. 63).
        Due.text(x, 1, "(s=0&t>9|s=1&t<60)*30");
        x.jump(1, 1);
        DUE.is("one in", x.balks(0), 1);
        DUE.is("how many", x.balks(1), 4);
        x.jump(0, 1);
        DUE.is("who of two", x.balks(0), 0);
        DUE.is("how many of two", x.balks(1), 10);
        x.jump(0, 0);
        x.jump(2, 1);
        DUE.is("both fail together: the least", x.balks(0), 1);
        DUE.is("none on one alone", x.balks(1), 0);
        x.jump(0, 1);
        x.jump(1, 0);
        Due.text(x, 1, "(s=0&t>9|s=1&t<54)*30");
        DUE.is("as many each: the least", x.balks(0), 0);
        Due.text(x, 1, "(s=0&t>9|s=1&t<53)*30");
        DUE.is("the other has more", x.balks(0), 2);
        DUE.is("how many more", x.balks(1), 11);
        Due.text(x, 1, "(s=0&t>9|s=1&t>9)*30");
        DUE.is("on both alike", x.balks(1), 0);
    }

    private static void soon() {
        RopeTreaty x = new RopeTreaty();
        x.jumper(5, 0, 0);
        x.jumper(60, 40, 0);
        DUE.is("nobody in", x.soon(44), Due.NONE);
        x.jump(0, 1);
        DUE.is("now", x.soon(44), 0);
        DUE.is("never", x.soon(36), Due.NONE);
        x.jump(1, 1);
        // The old one of m 0 likes 44 by 10 / 2, so it is not taken while he is in: 2, 4, 6, 8 a four of beats.
        x.rest(0, 99);
        DUE.is("when the old one has missed", x.soon(44), x.lasts(1));
        DUE.is("which is in the ninth beat", x.lasts(1), 9);
        DUE.is("soon(64)", x.soon(64), Due.BEYOND);
        DUE.is("soon(-1)", x.soon(-1), Due.BEYOND);
        x.jump(1, 0);
        x.spell(1, 0);
        DUE.is("a still rope", x.soon(44), Due.NONE);
    }

    private static void soonByBeat() {
        RopeTreaty x = Due.beaten(3);
        x.jumper(5, 99, 0);
        x.jump(0, 1);
        DUE.is("not at pepper", x.soon(44), 1);
        x.spell(0, 1);
        DUE.is("the rope stands behind pepper", x.soon(44), Due.NONE);
        // A runner of m 0 and side 0 likes 9 by 20 and the rest of the beat by 7: by 26 at beat 6.
        RopeTreaty y = new RopeTreaty();
        y.jumper(50, 99, 0);
        y.jump(0, 1);
        y.bar(26);
        DUE.is("at beat 6", y.soon(9), 6);
        y.bar(23);
        DUE.is("at beat 4, not at pepper", y.soon(9), 4);
        y.bar(27);
        DUE.is("never", y.soon(9), Due.NONE);
        RopeTreaty z = new RopeTreaty();
        z.jumper(50, 99, 1);
        z.jump(0, 1);
        z.bar(31);
        DUE.is("of side 1, at beat 6", z.soon(9), 6);
        y.bar(0);
        Due.text(y, 0, "0");
        Due.text(y, 1, "99");
        y.spell(0, 1);
        y.bar(99);
        DUE.is("held to 99", y.soon(0), 0);
        // Costs 0, so he stays; liked by 42 and more at a beat whose rest by 7 is 6, ahead of the 99th.
        Due.text(y, 1, "l");
        y.spell(0, 99);
        y.bar(26);
        DUE.is("in 6", y.soon(9), 6);
        for (int i = 0; i < 7; i++) {
            y.beats(1);
        }
        DUE.is("13 and 20 are not pepper", y.soon(9), 6);
    }

    private static void meets() {
        RopeTreaty x = new RopeTreaty();
        DUE.is("now", x.meets(0, 30, 0, 29), 0);
        DUE.is("2 by 3, 3 by 5", x.meets(2, 3, 3, 5), 8);
        DUE.is("29 by 30, 28 by 29", x.meets(29, 30, 28, 29), 869);
        DUE.is("1 by 2, 0 by 4", x.meets(1, 2, 0, 4), Due.NONE);
        DUE.is("0 by 1, 0 by 1", x.meets(0, 1, 0, 1), 0);
        int[][] wrong = {{3, 3, 0, 4}, {-1, 3, 0, 4}, {0, 0, 0, 4}, {0, -1, 0, 4}, {0, 31, 0, 4},
            {0, 4, 3, 3}, {0, 4, -1, 3}, {0, 4, 0, 0}, {0, 4, 0, 31}, {0, 4, 0, Integer.MIN_VALUE}};
        for (int[] w : wrong) {
            DUE.is("meets beyond", x.meets(w[0], w[1], w[2], w[3]), Due.BEYOND);
        }
        x.beats(8);
        DUE.is("8 is now", x.meets(2, 3, 3, 5), 8);
        x.beats(1);
        DUE.is("behind 8", x.meets(2, 3, 3, 5), 23);
        DUE.is("behind 0", x.meets(0, 30, 0, 29), 870);
    }

    private static void odds() {
        RopeTreaty x = new RopeTreaty();
        x.jumper(5, 0, 0);
        int[][] due = {{0, 1, 1}, {1, 7, 8}, {10, 7, 8}, {11, 1, 2}, {20, 1, 2}, {30, 1, 8}, {31, 0, 1}};
        for (int[] d : due) {
            x.bar(d[0]);
            DUE.is("odds at a bar of " + d[0] + ", above", x.odds(0, 0), d[1]);
            DUE.is("odds at a bar of " + d[0] + ", below", x.odds(0, 1), d[2]);
        }
        Due.text(x, 1, "t");
        for (int bar = 0; bar < 64; bar++) {
            x.bar(bar);
            long above = x.odds(0, 0);
            long below = x.odds(0, 1);
            DUE.is("odds of " + (64 - bar), above * 64, below * (64 - bar));
            DUE.is("lowest terms", above % 2 == 0 ? below % 2 : 1, 1);
        }
        DUE.is("odds part 2", x.odds(0, 2), Due.BEYOND);
        DUE.is("odds part -1", x.odds(0, -1), Due.BEYOND);
        DUE.is("odds jumper 1", x.odds(1, 0), Due.BEYOND);
        DUE.is("odds jumper -1", x.odds(-1, 0), Due.BEYOND);
    }

    private static void fits() {
        RopeTreaty x = new RopeTreaty();
        x.jumper(0, 0, 0);
        x.jumper(30, 99, 0);
        x.jump(1, 1);
        DUE.is("fits, missing", x.fits(0), Due.NONE);
        DUE.is("fits(4)", x.fits(4), Due.BEYOND);
        DUE.is("fits(-1)", x.fits(-1), Due.BEYOND);
        x.sheet(0, 16, 2);
        x.put(0, 1, 99);
        DUE.is("now", x.fits(0), 0);
        x.put(0, 0, 40);
        x.put(0, 1, 59);
        DUE.is("behind 40", x.fits(0), 40);
        x.put(0, 0, 99);
        x.put(0, 1, 0);
        DUE.is("behind 99", x.fits(0), 99);
        x.put(0, 1, 1);
        DUE.is("not by 99", x.fits(0), Due.NONE);
        x.put(0, 1, 65536);
        DUE.is("lowest bits", x.fits(0), 99);
        x.sheet(1, 8, 1);
        x.put(1, 0, 7);
        DUE.is("fewer numbers than jumpers", x.fits(1), 7);
        x.sheet(2, 8, 3);
        x.put(2, 1, 99);
        DUE.is("more numbers than jumpers", x.fits(2), Due.NONE);
        x.sheet(3, 32, 0);
        DUE.is("no numbers", x.fits(3), 0);
        DUE.is("told NONE", x.told(2), 3);
    }

    private static void onlyThought() {
        RopeTreaty x = new RopeTreaty();
        x.jumper(5, 9, 0);
        x.jumper(30, 50, 1);
        x.jump(0, 1);
        x.sheet(0, 8, 1);
        x.put(0, 0, 88);
        x.then(0, 50, 0);
        x.lasts(0);
        x.agree(0);
        x.fairest(0);
        x.balks(0);
        x.soon(3);
        x.meets(1, 2, 1, 3);
        x.odds(0, 0);
        x.fits(0);
        int[] counts = {2, 1, 0, -1, 0, 99, 99, 30, 0, 0, 0, 1};
        for (int what = 0; what < counts.length; what++) {
            DUE.is("behind thought count(" + what + ")", x.count(what), counts[what]);
        }
        DUE.is("breath of 0", x.jumperIs(0, 2), 9);
        DUE.is("breath of 1", x.jumperIs(1, 2), 50);
    }
}
