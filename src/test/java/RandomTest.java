import java.util.Random;

/** Many runs of calls, the same ones each time: RopeTreaty and PlainTreaty answer alike, and nothing is thrown. */
public final class RandomTest {
    private static final Due DUE = new Due("RandomTest");
    private static final int RUNS = 1500;
    private static final int CALLS = 512;
    private static final int[] EDGES = {Integer.MIN_VALUE, Integer.MIN_VALUE + 1, -1000000001, -256, -2, -1, 0, 1, 2, 23,
        24, 25, 30, 31, 59, 60, 61, 63, 64, 69, 70, 98, 99, 100, 255, 256, 65535, 65536, Integer.MAX_VALUE};
    private static final String SIGNS = "cbplts0123456789|&<=>+-*/%!()(!cl1";

    private final Random random;
    private final RopeTreaty x = new RopeTreaty();
    private final PlainTreaty y = new PlainTreaty();
    private final int run;
    private final boolean wild;
    private int call;

    private RandomTest(int run) {
        this.run = run;
        random = new Random(run);
        wild = run % 4 == 0;
    }

    public static void main(String[] args) {
        texts();
        for (int run = 0; run < RUNS; run++) {
            new RandomTest(run).go();
        }
        DUE.end();
    }

    /** Many texts, each right or with few faults, by both readers. */
    private static void texts() {
        Random random = new Random(7);
        for (int i = 0; i < 20000; i++) {
            RopeTreaty x = new RopeTreaty();
            PlainTreaty y = new PlainTreaty();
            StringBuilder made = new StringBuilder();
            expression(random, made, random.nextInt(6), "lts");
            for (int spoilt = random.nextInt(3); spoilt > 0 && made.length() > 0; spoilt--) {
                made.setCharAt(random.nextInt(made.length()), SIGNS.charAt(random.nextInt(SIGNS.length())));
            }
            made.setLength(Math.min(made.length(), 1 + random.nextInt(60)));
            for (int at = 0; at < made.length(); at++) {
                x.feed(made.charAt(at), 1);
                y.feed(made.charAt(at), 1);
            }
            DUE.is("text(1) of " + made, x.text(1), y.text(1));
            int a = random.nextInt(200) - 100;
            int b = random.nextInt(20) - 10;
            int c = random.nextInt();
            DUE.is("law(1, ..) of " + made, x.law(1, a, b, c), y.law(1, a, b, c));
        }
    }

    private static void expression(Random random, StringBuilder made, int depth, String names) {
        int shape = depth <= 0 ? random.nextInt(2) : random.nextInt(6);
        if (shape == 0) {
            made.append(random.nextInt(random.nextBoolean() ? 10 : 12000));
        } else if (shape == 1) {
            made.append(names.charAt(random.nextInt(3)));
        } else if (shape == 2) {
            made.append('!');
            expression(random, made, depth - 1, names);
        } else if (shape == 3) {
            made.append('(');
            expression(random, made, depth - 1, names);
            made.append(')');
        } else {
            expression(random, made, depth - 1, names);
            made.append("|&<=>+-*/%".charAt(random.nextInt(10)));
            expression(random, made, depth - 1, names);
        }
    }

    private void go() {
        for (call = 0; call < CALLS; call++) {
            try {
                one(random.nextInt(44));
            } catch (RuntimeException e) {
                DUE.is("run " + run + " call " + call + " threw " + e + " at " + e.getStackTrace()[0], 1, 0);
            }
        }
    }

    private void same(String name, long got, long want) {
        DUE.is("run " + run + " call " + call + " " + name, got, want);
    }

    /** One of 0 .. most, now and then one beside it or any. */
    private int some(int most) {
        int draw = random.nextInt(wild ? 8 : 40);
        if (draw == 0) {
            return EDGES[random.nextInt(EDGES.length)];
        }
        return draw == 1 ? (random.nextBoolean() ? most + 1 : -1) : random.nextInt(most + 1);
    }

    private int any() {
        return random.nextInt(4) == 0 ? EDGES[random.nextInt(EDGES.length)] : random.nextInt(240) - 120;
    }

    private void one(int op) {
        int a = some(5);
        switch (op) {
            case 0: { int b = some(69), c = some(99), d = some(1);
                same("jumper", x.jumper(b, c, d), y.jumper(b, c, d)); break; }
            case 1: { int b = some(5); same("jumperIs", x.jumperIs(a, b), y.jumperIs(a, b)); break; }
            case 2: { int b = some(69); same("become", x.become(a, b), y.become(a, b)); break; }
            case 3: { int b = some(6); same("as", x.as(a, b), y.as(a, b)); break; }
            case 4: case 41: { int b = some(1); same("jump", x.jump(a, b), y.jump(a, b)); break; }
            case 5: { int b = some(99); same("rest", x.rest(a, b), y.rest(a, b)); break; }
            case 6: case 42: { int b = some(1), c = some(99); same("spell", x.spell(b, c), y.spell(b, c)); break; }
            case 7: { int b = some(random.nextBoolean() ? 99 : 40); same("bar", x.bar(b), y.bar(b)); break; }
            case 8: { int b = some(63); same("liking", x.liking(a, b), y.liking(a, b)); break; }
            case 9: { int b = some(63); same("talk", x.talk(a, b), y.talk(a, b)); break; }
            case 10: feedAny(); break;
            case 11: feedText(some(1)); break;
            case 12: { int b = some(30); if (b % 5 == 0) { same("untell", x.untell(b / 5 % 2), y.untell(b / 5 % 2)); }
                break; }
            case 13: { int b = some(1), c = any(), d = any(), e = any();
                same("law", x.law(b, c, d, e), y.law(b, c, d, e)); break; }
            case 14: { int b = some(99); same("beats", x.beats(b), y.beats(b)); break; }
            case 15: { int b = some(30); same("loose", x.loose(b), y.loose(b)); break; }
            case 16: { int b = any(); same("seed", x.seed(b), y.seed(b)); break; }
            default: other(op, a);
        }
    }

    private void other(int op, int a) {
        int s = some(3);
        switch (op) {
            case 17: { int b = some(99), c = some(1); same("then", x.then(a, b, c), y.then(a, b, c)); break; }
            case 18: same("lasts", x.lasts(a), y.lasts(a)); break;
            case 19: { int b = some(1); same("agree", x.agree(b), y.agree(b)); break; }
            case 20: { int b = some(1); same("fairest", x.fairest(b), y.fairest(b)); break; }
            case 21: { int b = some(1); same("balks", x.balks(b), y.balks(b)); break; }
            case 22: { int b = some(63); same("soon", x.soon(b), y.soon(b)); break; }
            case 23: { int b = some(29), c = some(31), d = some(29), e = some(31);
                if (random.nextInt(4) > 0 && c > 0 && e > 0) { b = Math.floorMod(b, c); d = Math.floorMod(d, e); }
                same("meets", x.meets(b, c, d, e), y.meets(b, c, d, e)); break; }
            case 24: { int b = some(1); same("odds", x.odds(a, b), y.odds(a, b)); break; }
            case 25: same("fits", x.fits(s), y.fits(s)); break;
            case 26: case 27: { int b = some(3), c = any();
                same("voice", x.voice(a, b, c), y.voice(a, b, c)); bodies(); break; }
            case 28: { int b = some(8); same("body", x.body(b), y.body(b)); break; }
            case 29: { int b = random.nextInt(9) == 0 ? any() : 8 << random.nextInt(3), c = some(random.nextInt(24) + 1);
                if (random.nextInt(8) == 0) { b = 0; }
                same("sheet", x.sheet(s, b, c), y.sheet(s, b, c)); break; }
            case 30: case 31: { int b = some(6), c = random.nextBoolean() ? any() : some(8);
                same("put", x.put(s, b, c), y.put(s, b, c)); break; }
            case 32: { int b = some(6), c = some(3), d = some(6), e = some(6);
                same("move", x.move(s, b, c, d, e), y.move(s, b, c, d, e)); break; }
            case 33: same("breaths", x.breaths(s), y.breaths(s)); break;
            case 34: same("judge", x.judge(s), y.judge(s)); break;
            case 35: if (random.nextInt(3) == 0) { same("image", x.image(), y.image()); } break;
            case 36: if (random.nextInt(6) == 0) { same("restore", x.restore(), y.restore()); } break;
            case 37: tellRight(); break;
            case 38: same("check", x.check(), y.check()); break;
            case 39: { int b = some(11); same("count", x.count(b), y.count(b)); break; }
            case 40: { int b = some(6); same("told", x.told(b), y.told(b)); break; }
            default: fillSheet(s); break;
        }
    }

    private void bodies() {
        int n = x.count(10);
        same("count(10)", n, y.count(10));
        for (int i = 0; i < n; i++) {
            same("body", x.body(i), y.body(i));
        }
    }

    private void feedAny() {
        long word = 0;
        for (int i = 0; i < 8; i++) {
            word = word << 8 | (random.nextInt(30) == 0 ? random.nextInt(256) : SIGNS.charAt(random.nextInt(SIGNS.length())));
        }
        int n = some(9);
        same("feed", x.feed(word, n), y.feed(word, n));
    }

    private void feedText(int use) {
        if (random.nextInt(3) > 0) {
            same("text, what stands", x.text(use), y.text(use));
            return;
        }
        StringBuilder made = new StringBuilder();
        expression(random, made, random.nextInt(5), use == 0 ? "cbp" : "lts");
        for (int at = 0; at < made.length() && at < 62; at++) {
            same("feed", x.feed(made.charAt(at), 1), y.feed(made.charAt(at), 1));
        }
        same("text of " + made, x.text(use), y.text(use));
    }

    /** Breaths as they are, now and then a wrong one, wait. */
    private void tellRight() {
        int n = random.nextInt(8);
        for (int i = 0; i < n; i++) {
            int v = y.jumperIs(i, 2);
            same("jumperIs", x.jumperIs(i, 2), v);
            if (random.nextInt(6) == 0) {
                v = any();
            }
            same("tell", x.tell(v), y.tell(v));
        }
    }

    /** A sheet of what beats will leave or will cost, so that fits and judge find something. */
    private void fillSheet(int s) {
        int n = 1 + random.nextInt(6);
        int bits = 8 << random.nextInt(3);
        same("sheet", x.sheet(s, bits, n), y.sheet(s, bits, n));
        int behind = random.nextInt(100);
        boolean costs = random.nextBoolean();
        for (int i = 0; i < n; i++) {
            int got = costs ? x.jumperIs(i, 5) : x.then(i, behind, 0);
            int want = costs ? y.jumperIs(i, 5) : y.then(i, behind, 0);
            same("to fill", got, want);
            same("put", x.put(s, i, want), y.put(s, i, want));
        }
        same("fits", x.fits(s), y.fits(s));
        same("judge", x.judge(s), y.judge(s));
    }
}
