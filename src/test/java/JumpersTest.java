/** Promises 1 to 11: a new object, jumpers, turners. */
public final class JumpersTest {
    private static final Due DUE = new Due("JumpersTest");

    public static void main(String[] args) {
        newObject();
        jumper();
        jumperIs();
        costsByKinds();
        become();
        as();
        jump();
        rest();
        spell();
        bar();
        likingByKinds();
        liking();
        talk();
        DUE.end();
    }

    private static void newObject() {
        RopeTreaty x = new RopeTreaty();
        int[] counts = {0, 0, 0, -1, 0, 99, 99, 30, 0, 0, 0, 1};
        for (int what = 0; what < counts.length; what++) {
            DUE.is("new count(" + what + ")", x.count(what), counts[what]);
        }
        for (int k = 1; k <= 6; k++) {
            DUE.is("new told(" + k + ")", x.told(k), 0);
        }
        DUE.is("new untell(0)", x.untell(0), 0);
        DUE.is("new untell(1)", x.untell(1), 0);
        DUE.is("new check()", x.check(), 0);
        DUE.is("new jumperIs", x.jumperIs(0, 0), Due.BEYOND);
        DUE.is("new restore", x.restore(), Due.NONE);
        DUE.is("new body", x.body(0), Due.NONE);
        for (int sheet = 0; sheet < 4; sheet++) {
            DUE.is("new judge(" + sheet + ")", x.judge(sheet), Due.NONE);
        }
    }

    private static void jumper() {
        RopeTreaty x = new RopeTreaty();
        int[][] wrong = {{-1, 0, 0}, {70, 0, 0}, {0, -1, 0}, {0, 100, 0}, {0, 0, -1}, {0, 0, 2},
            {Integer.MIN_VALUE, 0, 0}, {Integer.MAX_VALUE, 0, 0}};
        for (int[] w : wrong) {
            DUE.is("jumper beyond", x.jumper(w[0], w[1], w[2]), Due.BEYOND);
        }
        DUE.is("none came", x.count(0), 0);
        int[] kms = {0, 69, 12, 25, 38, 40};
        for (int i = 0; i < 6; i++) {
            DUE.is("jumper " + i, x.jumper(kms[i], i == 1 ? 99 : i, i % 2), i);
            DUE.is("how many", x.count(0), i + 1);
        }
        for (int i = 0; i < 6; i++) {
            DUE.is("kind " + i, x.jumperIs(i, 0), kms[i] / 10);
            DUE.is("m " + i, x.jumperIs(i, 1), kms[i] % 10);
            DUE.is("breath " + i, x.jumperIs(i, 2), i == 1 ? 99 : i);
            DUE.is("side " + i, x.jumperIs(i, 3), i % 2);
            DUE.is("in " + i, x.jumperIs(i, 4), 0);
        }
        DUE.is("a seventh", x.jumper(0, 0, 0), Due.FULL);
        DUE.is("BEYOND ahead of FULL", x.jumper(70, 0, 0), Due.BEYOND);
        DUE.is("still six", x.count(0), 6);
        DUE.is("told FULL", x.told(4), 1);
        DUE.is("told BEYOND", x.told(1), 9);
    }

    private static void jumperIs() {
        RopeTreaty x = new RopeTreaty();
        x.jumper(57, 20, 1);
        x.jump(0, 1);
        int[] due = {5, 7, 20, 1, 1, 0};
        for (int what = 0; what < 6; what++) {
            DUE.is("jumperIs(0, " + what + ")", x.jumperIs(0, what), due[what]);
        }
        DUE.is("jumperIs what 6", x.jumperIs(0, 6), Due.BEYOND);
        DUE.is("jumperIs what -1", x.jumperIs(0, -1), Due.BEYOND);
        DUE.is("jumperIs jumper 1", x.jumperIs(1, 0), Due.BEYOND);
        DUE.is("jumperIs jumper -1", x.jumperIs(-1, 0), Due.BEYOND);
    }

    private static void costsByKinds() {
        // By kinds, then by the words salt, mustard, vinegar, pepper; one other is in.
        int[][] due = {{1, 2, 3, 4}, {2, 3, 4, 5}, {1, 2, 3, 4}, {1, 1, 1, 1}, {3, 4, 5, 6}, {0, 1, 1, 2}, {2, 4, 6, 8}};
        for (int kind = 0; kind < 7; kind++) {
            for (int word = 0; word < 4; word++) {
                RopeTreaty x = Due.beaten(word);
                x.jumper(0, 99, 0);
                x.jump(0, 1);
                x.jumper(10 * kind + 3, 50, 1);
                DUE.is("cost of kind " + kind + " at word " + word, x.jumperIs(1, 5), due[kind][word]);
            }
        }
        RopeTreaty x = new RopeTreaty();
        x.jumper(40, 99, 0);
        DUE.is("bailiff, nobody in", x.jumperIs(0, 5), 2);
        x.jump(0, 1);
        DUE.is("bailiff, he alone in", x.jumperIs(0, 5), 3);
        DUE.is("the text costs", Due.text(x, 0, "p*7+c*2-b"), 1);
        DUE.is("bailiff by a text", x.jumperIs(0, 5), 13);
        x.beats(1);
        DUE.is("bailiff by a text at mustard", x.jumperIs(0, 5), 14);
    }

    private static void become() {
        RopeTreaty x = new RopeTreaty();
        x.jumper(36, 50, 1);
        x.jump(0, 1);
        DUE.is("become(0, 61)", x.become(0, 61), 3);
        DUE.is("become(0, 9)", x.become(0, 9), 6);
        DUE.is("kind", x.jumperIs(0, 0), 0);
        DUE.is("m", x.jumperIs(0, 1), 9);
        DUE.is("breath stays", x.jumperIs(0, 2), 50);
        DUE.is("side stays", x.jumperIs(0, 3), 1);
        DUE.is("in stays", x.jumperIs(0, 4), 1);
        DUE.is("become km 70", x.become(0, 70), Due.BEYOND);
        DUE.is("become km -1", x.become(0, -1), Due.BEYOND);
        DUE.is("become jumper 1", x.become(1, 0), Due.BEYOND);
        DUE.is("become jumper -1", x.become(-1, 0), Due.BEYOND);
        DUE.is("m stays", x.jumperIs(0, 1), 9);
    }

    private static void as() {
        // Row: the kind he is of; column: the kind he is asked as.
        String[] rows = {"1000000", "1100000", "1010000", "1001000", "1100100", "1010010", "1000001"};
        RopeTreaty x = new RopeTreaty();
        x.jumper(0, 0, 0);
        int wrong = 0;
        for (int kind = 0; kind < 7; kind++) {
            x.become(0, 10 * kind + kind + 2);
            for (int asked = 0; asked < 7; asked++) {
                boolean is = rows[kind].charAt(asked) == '1';
                wrong += is ? 0 : 1;
                DUE.is("kind " + kind + " as " + asked, x.as(0, asked), is ? kind + 2 : Due.KIND);
            }
        }
        DUE.is("told KIND", x.told(5), wrong);
        DUE.is("as kind 7", x.as(0, 7), Due.BEYOND);
        DUE.is("as kind -1", x.as(0, -1), Due.BEYOND);
        DUE.is("as jumper 1", x.as(1, 0), Due.BEYOND);
        DUE.is("as jumper -1", x.as(-1, 0), Due.BEYOND);
    }

    private static void jump() {
        RopeTreaty x = new RopeTreaty();
        x.jumper(0, 9, 0);
        x.jumper(0, 9, 0);
        DUE.is("jump(1, 1)", x.jump(1, 1), 0);
        DUE.is("jump(1, 1) again", x.jump(1, 1), 1);
        DUE.is("in as a set", x.count(1), 2);
        DUE.is("jump(1, 0)", x.jump(1, 0), 1);
        DUE.is("jump(1, 0) again", x.jump(1, 0), 0);
        x.jump(0, 1);
        for (int turner = 0; turner < 2; turner++) {
            x.spell(turner, 0);
            x.spell(1 - turner, 50);
            DUE.is("jump, rope still", x.jump(1, 1), Due.STATE);
            DUE.is("jump, rope still, though he is in", x.jump(0, 1), Due.STATE);
        }
        DUE.is("not in", x.jumperIs(1, 4), 0);
        DUE.is("jump out of a still rope", x.jump(0, 0), 1);
        DUE.is("BEYOND ahead of STATE", x.jump(2, 1), Due.BEYOND);
        DUE.is("jump jumper -1", x.jump(-1, 0), Due.BEYOND);
        DUE.is("jump in 2", x.jump(0, 2), Due.BEYOND);
        DUE.is("jump in -1", x.jump(0, -1), Due.BEYOND);
        x.spell(1, 1);
        x.spell(0, 1);
        DUE.is("jump at arms of 1", x.jump(1, 1), 0);
    }

    private static void rest() {
        RopeTreaty x = new RopeTreaty();
        x.jumper(0, 9, 0);
        DUE.is("rest(0, 99)", x.rest(0, 99), 9);
        DUE.is("rest(0, 0)", x.rest(0, 0), 99);
        DUE.is("rest 100", x.rest(0, 100), Due.BEYOND);
        DUE.is("rest -1", x.rest(0, -1), Due.BEYOND);
        DUE.is("rest jumper 1", x.rest(1, 0), Due.BEYOND);
        DUE.is("rest jumper -1", x.rest(-1, 0), Due.BEYOND);
        DUE.is("breath", x.jumperIs(0, 2), 0);
    }

    private static void spell() {
        RopeTreaty x = new RopeTreaty();
        DUE.is("spell(0, 0)", x.spell(0, 0), 99);
        DUE.is("spell(1, 7)", x.spell(1, 7), 99);
        DUE.is("spell(0, 99)", x.spell(0, 99), 0);
        DUE.is("arm 0", x.count(5), 99);
        DUE.is("arm 1", x.count(6), 7);
        DUE.is("spell 100", x.spell(0, 100), Due.BEYOND);
        DUE.is("spell -1", x.spell(0, -1), Due.BEYOND);
        DUE.is("spell turner 2", x.spell(2, 0), Due.BEYOND);
        DUE.is("spell turner -1", x.spell(-1, 0), Due.BEYOND);
        DUE.is("arms stay", x.count(5) + x.count(6), 106);
    }

    private static void bar() {
        RopeTreaty x = new RopeTreaty();
        DUE.is("bar(99)", x.bar(99), 30);
        DUE.is("bar(0)", x.bar(0), 99);
        DUE.is("bar(100)", x.bar(100), Due.BEYOND);
        DUE.is("bar(-1)", x.bar(-1), Due.BEYOND);
        DUE.is("the bar", x.count(7), 0);
    }

    private static void likingByKinds() {
        // m 8: 7 * 8 + 9 is 65, whose bit 0 alone can stand in a treaty; m 2: 23, bits 0, 1, 2, 4.
        int[][] m8 = {{0, 10}, {60, 50}, {5, 15}, {40, 43}, {50, 40}, {5, 15}, {8, 13}};
        int[][] m2 = {{0, 40}, {60, 20}, {5, 45}, {40, 43}, {50, 10}, {5, 45}, {2, 22}};
        for (int kind = 0; kind < 7; kind++) {
            RopeTreaty x = new RopeTreaty();
            x.jumper(10 * kind + 8, 0, 1);
            x.jumper(10 * kind + 2, 0, 1);
            DUE.is("kind " + kind + " m 8 likes 0", x.liking(0, 0), m8[kind][0]);
            DUE.is("kind " + kind + " m 8 likes 63", x.liking(0, 63), m8[kind][1]);
            DUE.is("kind " + kind + " m 2 likes 0", x.liking(1, 0), m2[kind][0]);
            DUE.is("kind " + kind + " m 2 likes 63", x.liking(1, 63), m2[kind][1]);
        }
    }

    private static void liking() {
        RopeTreaty x = Due.beaten(20);
        x.jumper(58, 0, 0);
        x.jumper(22, 0, 0);
        x.jumper(32, 0, 0);
        for (int treaty = 0; treaty < 64; treaty += 7) {
            DUE.is("child likes " + treaty, x.liking(2, treaty), new int[] {40, 42, 44, 41, 43}[treaty / 7 % 5]);
        }
        DUE.is("runner at beat 20", x.liking(0, 2), 6);
        x.beats(1);
        DUE.is("runner at beat 21", x.liking(0, 2), 0);
        DUE.is("con of side 0", x.liking(1, 63), 40);
        // 7 * 7 + 9 is 58: a bailiff's 60 - 40 - 10; of no m more than 4 bits stand in a treaty.
        x.become(1, 47);
        DUE.is("bailiff likes 58", x.liking(1, 58), 10);
        DUE.is("the text likes", Due.text(x, 1, "l-t*s-11"), 1);
        DUE.is("held at 0", x.liking(1, 58), 0);
        DUE.is("side 0", x.liking(1, 0), 39);
        DUE.is("the text likes more", Due.text(x, 1, "l+t"), 1);
        DUE.is("below 99", x.liking(1, 61), 81);
        DUE.is("the text likes most", Due.text(x, 1, "l+t*2"), 1);
        DUE.is("held at 99", x.liking(1, 63), 99);
        DUE.is("treaty 64", x.liking(0, 64), Due.BEYOND);
        DUE.is("treaty -1", x.liking(0, -1), Due.BEYOND);
        DUE.is("jumper 2", x.liking(3, 0), Due.BEYOND);
        DUE.is("jumper -1", x.liking(-1, 0), Due.BEYOND);
    }

    private static void talk() {
        RopeTreaty x = new RopeTreaty();
        x.jumper(5, 99, 0);
        x.jumper(13, 99, 0);
        DUE.is("talk, not in", x.talk(0, 0), Due.STATE);
        x.jump(0, 1);
        // 44 is 7 * 5 + 9: liked by 30, the bar; 36 by 20.
        DUE.is("talk of 44", x.talk(0, 44), 1);
        DUE.is("the treaty", x.count(3), 44);
        DUE.is("talk of 36", x.talk(0, 36), 0);
        DUE.is("the treaty stays", x.count(3), 44);
        x.bar(31);
        DUE.is("talk at a bar of 31", x.talk(0, 44), 0);
        x.bar(30);
        x.jump(1, 1);
        // The master of m 3 (30, of which 44 has 12): 60 - 20.
        DUE.is("talk of 44, master in", x.talk(1, 44), 1);
        // 63: the jumper 30, the master 60 - 40.
        DUE.is("talk of 63, master in", x.talk(1, 63), 0);
        DUE.is("talk jumper 2", x.talk(2, 0), Due.BEYOND);
        DUE.is("talk jumper -1", x.talk(-1, 0), Due.BEYOND);
        DUE.is("talk treaty 64", x.talk(0, 64), Due.BEYOND);
        DUE.is("talk treaty -1", x.talk(0, -1), Due.BEYOND);
        x.beats(3);
        DUE.is("talk at pepper", x.talk(0, 44), Due.STATE);
        DUE.is("BEYOND ahead of STATE", x.talk(0, 64), Due.BEYOND);
        x.beats(1);
        DUE.is("talk at salt", x.talk(0, 44), 1);
        x.spell(1, 0);
        DUE.is("talk, rope still", x.talk(0, 44), Due.STATE);
        DUE.is("told STATE", x.told(3), 3);
    }
}
