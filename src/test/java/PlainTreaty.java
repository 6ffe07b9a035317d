import java.util.ArrayList;
import java.util.List;

/**
 * The document told a second time, in another way than src/main/java/RopeTreaty.java: kinds are classes, texts are
 * worked out from their bytes by splitting them, thought is a copy of everything. It is slow and knows no rules of
 * LANGUAGE.md; RandomTest compares the two.
 */
final class PlainTreaty {
    private static final int BEYOND = 1;
    private static final int NONE = 2;
    private static final int STATE = 3;
    private static final int FULL = 4;
    private static final int KIND = 5;
    private static final int PARTED = 6;

    /** What voice() ends with where a part is by 0. */
    private static final class Parting extends RuntimeException {
        private static final long serialVersionUID = 1L;
    }

    private static class Jumper implements Cloneable {
        int k, m, breath, side;
        boolean in;
        List<Integer> trace;

        int takes(World w) { return 1 + w.beat % 4; }
        int leans(World w, int t) {
            int bits = 0;
            for (int bit = 1; bit < 64; bit *= 2) {
                bits += (t / bit % 2 == 1 && (7 * m + 9) / bit % 2 == 1) ? 10 : 0;
            }
            return bits;
        }
        int sings(int x) { trace.add(10); return x + k; }
        int jumps(int x) { trace.add(11); return sings(x) * 2; }
        int claps(int x) { trace.add(12); return jumps(x) - m; }
        int parts(int x) {
            trace.add(13);
            if (m == k) throw new Parting();
            return (int) ((long) x / (m - k));
        }
        Jumper copy() {
            try {
                return (Jumper) clone();
            } catch (CloneNotSupportedException e) {
                throw new IllegalStateException(e);
            }
        }
    }

    private static class Master extends Jumper {
        @Override int takes(World w) { return super.takes(w) + 1; }
        @Override int leans(World w, int t) { return 60 - super.leans(w, t); }
        @Override int sings(int x) { trace.add(20); return super.sings(x) - 4; }
        @Override int parts(int x) { trace.add(21); return super.parts(x) + jumps(1); }
    }

    private static class Con extends Jumper {
        @Override int leans(World w, int t) { return super.leans(w, t) + 5 * side; }
        @Override int jumps(int x) { trace.add(30); return -super.jumps(x); }
    }

    private static final class Child extends Jumper {
        @Override int takes(World w) { return 1; }
        @Override int leans(World w, int t) { return 40 + t % 5; }
        @Override int claps(int x) { trace.add(40); return super.claps(x / 2); }
    }

    private static final class Bailiff extends Master {
        @Override int takes(World w) { return super.takes(w) + w.inSet().size(); }
        @Override int leans(World w, int t) { return super.leans(w, t) - 10; }
        @Override int sings(int x) { trace.add(50); return super.sings(x) * 3; }
        @Override int claps(int x) { trace.add(51); return super.claps(x) ^ k; }
    }

    private static final class Runner extends Con {
        @Override int takes(World w) { return super.takes(w) / 2; }
        @Override int leans(World w, int t) { return super.leans(w, t) + w.beat % 7; }
        @Override int jumps(int x) { trace.add(60); return super.jumps(x + 1); }
    }

    private static final class Old extends Jumper {
        @Override int takes(World w) { return 2 * super.takes(w); }
        @Override int leans(World w, int t) { return super.leans(w, t) / 2 + m; }
        @Override int sings(int x) { trace.add(70); return 9; }
        @Override int jumps(int x) { trace.add(71); return super.jumps(x) + m; }
    }

    /** Texts by splitting: at the last sign that binds least and stands in no bracket. */
    static final class Plain {
        private final String names;
        private final int[] worth;

        Plain(String names, int... worth) {
            this.names = names;
            this.worth = worth;
        }

        /** How deep ! and ( stand open at most; -1 if it is no text. */
        int depth(String s) { return level(s, 0); }

        private static final String[] SIGNS = {"|", "&", "<=>", "+-", "*/%"};

        private int level(String s, int level) {
            if (level == SIGNS.length) return part(s);
            int at = last(s, SIGNS[level]);
            if (at < 0) return level(s, level + 1);
            int left = level(s.substring(0, at), level == 2 ? 3 : level);
            int right = level(s.substring(at + 1), level + 1);
            return left < 0 || right < 0 ? -1 : Math.max(left, right);
        }

        private int part(String s) {
            if (s.matches("[0-9]{1,4}")) return 0;
            if (s.length() == 1 && names.contains(s)) return 0;
            if (s.startsWith("!")) return 1 + check(part(s.substring(1)));
            if (s.startsWith("(") && s.endsWith(")") && s.length() > 1) {
                return 1 + check(level(s.substring(1, s.length() - 1), 0));
            }
            return -1;
        }

        private static int check(int depth) { return depth < 0 ? -2 : depth; }

        private static int last(String s, String signs) {
            int open = 0;
            int at = -1;
            for (int i = 0; i < s.length(); i++) {
                if (s.charAt(i) == '(') open++;
                else if (s.charAt(i) == ')') open--;
                else if (open == 0 && signs.indexOf(s.charAt(i)) >= 0) at = i;
            }
            return at;
        }

        boolean isText(String s) {
            int depth = depth(s);
            return depth >= 0 && depth <= 5;
        }

        /** Whether some text goes on from here: with an operand or none, and brackets closed. */
        boolean goesOn(String s) {
            for (String operand : new String[] {"", "1"}) {
                String tried = s + operand;
                for (int closed = 0; closed <= 6; closed++) {
                    if (isText(tried)) return true;
                    tried += ")";
                }
            }
            return false;
        }

        int fault(String s) {
            for (int i = 0; i < s.length(); i++) {
                if (!goesOn(s.substring(0, i + 1))) return i;
            }
            return isText(s) ? -1 : s.length();
        }

        int work(String s) { return work(s, 0); }

        private int work(String s, int level) {
            if (level == SIGNS.length) return workPart(s);
            int at = last(s, SIGNS[level]);
            if (at < 0) return work(s, level + 1);
            int a = work(s.substring(0, at), level);
            int b = work(s.substring(at + 1), level + 1);
            switch (s.charAt(at)) {
                case '|': return a != 0 || b != 0 ? 1 : 0;
                case '&': return a != 0 && b != 0 ? 1 : 0;
                case '<': return a < b ? 1 : 0;
                case '=': return a == b ? 1 : 0;
                case '>': return a > b ? 1 : 0;
                case '+': return a + b;
                case '-': return a - b;
                case '*': return a * b;
                case '/': return b == 0 ? 0 : (int) ((long) a / b);
                default: return b == 0 ? 0 : (int) ((long) a % b);
            }
        }

        private int workPart(String s) {
            if (s.startsWith("!")) return workPart(s.substring(1)) == 0 ? 1 : 0;
            if (s.startsWith("(")) return work(s.substring(1, s.length() - 1), 0);
            int name = names.indexOf(s);
            return name >= 0 ? worth[name] : Integer.parseInt(s);
        }
    }

    /** All that an image keeps. */
    private static final class World {
        List<Jumper> jumpers = new ArrayList<>();
        int beat, treaty = -1, bar = 30, misses, z = 1;
        int[] arms = {99, 99};
        String[] texts = new String[2];
        String tape = "";
        List<Integer> waiting = new ArrayList<>();

        World copy() {
            World w = new World();
            for (Jumper j : jumpers) w.jumpers.add(j.copy());
            w.beat = beat;
            w.treaty = treaty;
            w.bar = bar;
            w.misses = misses;
            w.z = z;
            w.arms = arms.clone();
            w.texts = texts.clone();
            w.tape = tape;
            w.waiting = new ArrayList<>(waiting);
            return w;
        }

        boolean turns() { return Math.min(arms[0], arms[1]) > 0; }

        List<Jumper> inSet() {
            List<Jumper> in = new ArrayList<>();
            for (Jumper j : jumpers) if (j.in) in.add(j);
            return in;
        }

        int law(int use, int a, int b, int c) {
            int v = texts[use] == null ? a : new Plain(use == 0 ? "cbp" : "lts", a, b, c).work(texts[use]);
            int most = use == 0 ? 20 : 99;
            return v < 0 ? 0 : v > most ? most : v;
        }

        int costs(Jumper j) { return law(0, j.takes(this), beat % 4, inSet().size()); }
        int likes(Jumper j, int t) { return law(1, j.leans(this, t), t, j.side); }
        boolean fails(Jumper j, int t) { return likes(j, t) < bar; }

        boolean taken(int t) {
            for (Jumper j : inSet()) if (fails(j, t)) return false;
            return true;
        }

        int goBeat() {
            int missed = 0;
            if (turns()) {
                int[] cost = new int[jumpers.size()];
                for (Jumper j : jumpers) cost[j.k] = costs(j);
                for (Jumper j : jumpers) {
                    if (!j.in) j.breath = j.breath == 99 ? 99 : j.breath + 1;
                    else if (j.breath < cost[j.k]) { j.in = false; missed++; }
                    else j.breath -= cost[j.k];
                }
                arms[0]--;
                arms[1]--;
            }
            misses = Math.min(99999, misses + missed);
            beat++;
            return missed;
        }

        int draw() {
            z = (int) (z * 1103515245L + 12345L);
            return z >>> 8;
        }
    }

    private World w = new World();
    private World kept;
    private int images;
    private final int[] told = new int[7];
    private int[][] sheets = new int[4][];
    private final int[] bits = new int[4];
    private List<Integer> trace = new ArrayList<>();

    private int error(int k) {
        told[k]++;
        return -1000000000 - k;
    }

    private boolean no(int jumper) { return jumper < 0 || jumper >= w.jumpers.size(); }
    private static boolean out(int v, int least, int most) { return v < least || v > most; }
    private static boolean bitsOff(int b) { return b != 0 && b != 8 && b != 16 && b != 32; }

    private static Jumper made(int km) {
        Jumper[] all = {new Jumper(), new Master(), new Con(), new Child(), new Bailiff(), new Runner(), new Old()};
        Jumper j = all[km / 10];
        j.m = km % 10;
        return j;
    }

    private static int kindOf(Jumper j) {
        Class<?>[] kinds = {Jumper.class, Master.class, Con.class, Child.class, Bailiff.class, Runner.class, Old.class};
        for (int i = 0; i < 7; i++) if (j.getClass() == kinds[i]) return i;
        return -1;
    }

    private int sheetError(int sheet) {
        if (out(sheet, 0, 3)) return error(BEYOND);
        return sheets[sheet] == null ? error(NONE) : 0;
    }

    private List<Integer> breathsOf(World world) {
        List<Integer> row = new ArrayList<>();
        for (Jumper j : world.jumpers) row.add(j.breath);
        return row;
    }

    int jumper(int km, int breath, int side) {
        if (out(km, 0, 69) || out(breath, 0, 99) || out(side, 0, 1)) return error(BEYOND);
        if (w.jumpers.size() == 6) return error(FULL);
        Jumper j = made(km);
        j.k = w.jumpers.size();
        j.breath = breath;
        j.side = side;
        w.jumpers.add(j);
        return j.k;
    }

    int jumperIs(int jumper, int what) {
        if (no(jumper) || out(what, 0, 5)) return error(BEYOND);
        Jumper j = w.jumpers.get(jumper);
        return new int[] {kindOf(j), j.m, j.breath, j.side, j.in ? 1 : 0, w.costs(j)}[what];
    }

    int become(int jumper, int km) {
        if (no(jumper) || out(km, 0, 69)) return error(BEYOND);
        Jumper was = w.jumpers.get(jumper);
        Jumper is = made(km);
        is.k = was.k;
        is.breath = was.breath;
        is.side = was.side;
        is.in = was.in;
        w.jumpers.set(jumper, is);
        return kindOf(was);
    }

    int as(int jumper, int kind) {
        if (no(jumper) || out(kind, 0, 6)) return error(BEYOND);
        Jumper j = w.jumpers.get(jumper);
        return made(10 * kind).getClass().isInstance(j) ? j.m : error(KIND);
    }

    int jump(int jumper, int in) {
        if (no(jumper) || out(in, 0, 1)) return error(BEYOND);
        if (in == 1 && !w.turns()) return error(STATE);
        Jumper j = w.jumpers.get(jumper);
        int was = j.in ? 1 : 0;
        j.in = in == 1;
        return was;
    }

    int rest(int jumper, int breath) {
        if (no(jumper) || out(breath, 0, 99)) return error(BEYOND);
        int was = w.jumpers.get(jumper).breath;
        w.jumpers.get(jumper).breath = breath;
        return was;
    }

    int spell(int turner, int arm) {
        if (out(turner, 0, 1) || out(arm, 0, 99)) return error(BEYOND);
        int was = w.arms[turner];
        w.arms[turner] = arm;
        return was;
    }

    int bar(int v) {
        if (out(v, 0, 99)) return error(BEYOND);
        int was = w.bar;
        w.bar = v;
        return was;
    }

    int liking(int jumper, int treaty) {
        if (no(jumper) || out(treaty, 0, 63)) return error(BEYOND);
        return w.likes(w.jumpers.get(jumper), treaty);
    }

    int talk(int jumper, int treaty) {
        if (no(jumper) || out(treaty, 0, 63)) return error(BEYOND);
        if (!w.jumpers.get(jumper).in || !w.turns() || w.beat % 4 == 3) return error(STATE);
        if (!w.taken(treaty)) return 0;
        w.treaty = treaty;
        return 1;
    }

    int feed(long word, int n) {
        if (out(n, 1, 8)) return error(BEYOND);
        if (w.tape.length() + n > 60) return error(FULL);
        for (int i = 0; i < n; i++) w.tape += (char) (word >> 8 * i & 255);
        return w.tape.length();
    }

    int text(int use) {
        if (out(use, 0, 1)) return error(BEYOND);
        String s = w.tape;
        w.tape = "";
        int fault = new Plain(use == 0 ? "cbp" : "lts").fault(s);
        if (fault >= 0) return -10 - fault;
        w.texts[use] = s;
        return 1;
    }

    int untell(int use) {
        if (out(use, 0, 1)) return error(BEYOND);
        int was = w.texts[use] == null ? 0 : 1;
        w.texts[use] = null;
        return was;
    }

    int law(int use, int a, int b, int c) { return out(use, 0, 1) ? error(BEYOND) : w.law(use, a, b, c); }

    int beats(int n) {
        if (out(n, 1, 99)) return error(BEYOND);
        if (w.beat + n > 99999) return error(STATE);
        int missed = 0;
        for (int i = 0; i < n; i++) missed += w.goBeat();
        return missed;
    }

    int loose(int n) {
        if (out(n, 1, 30)) return error(BEYOND);
        if (w.beat + n > 99999) return error(STATE);
        int often = 0;
        for (int i = 0; i < n; i++) {
            if (!w.jumpers.isEmpty()) {
                Jumper j = w.jumpers.get(w.draw() % w.jumpers.size());
                int t = w.draw() % 64;
                if (w.turns()) j.in = true;
                if (j.in && w.turns() && w.beat % 4 != 3 && w.taken(t)) {
                    w.treaty = t;
                    often++;
                }
            }
            w.goBeat();
        }
        return often;
    }

    int seed(int v) {
        int was = w.z;
        w.z = v;
        return was;
    }

    int then(int jumper, int n, int what) {
        if (no(jumper) || out(n, 0, 99) || out(what, 0, 1)) return error(BEYOND);
        World thought = w.copy();
        for (int i = 0; i < n; i++) thought.goBeat();
        Jumper j = thought.jumpers.get(jumper);
        return what == 0 ? j.breath : j.in ? 1 : 0;
    }

    int lasts(int jumper) {
        if (no(jumper)) return error(BEYOND);
        if (!w.jumpers.get(jumper).in) return error(STATE);
        World thought = w.copy();
        int behind = 0;
        while (thought.jumpers.get(jumper).in && behind < 100) {
            thought.goBeat();
            behind++;
        }
        return behind == 100 ? error(NONE) : behind;
    }

    int agree(int what) {
        if (out(what, 0, 1)) return error(BEYOND);
        List<Integer> taken = new ArrayList<>();
        for (int t = 0; t < 64; t++) if (w.taken(t)) taken.add(t);
        if (what == 0) return taken.size();
        return taken.isEmpty() ? error(NONE) : taken.get(0);
    }

    int fairest(int what) {
        if (out(what, 0, 1)) return error(BEYOND);
        if (w.inSet().isEmpty()) return error(STATE);
        for (int much = 99; ; much--) {
            for (int t = 0; t < 64; t++) {
                boolean all = true;
                for (Jumper j : w.inSet()) all &= w.likes(j, t) >= much;
                if (all) return what == 0 ? t : much;
            }
        }
    }

    int balks(int what) {
        if (out(what, 0, 1)) return error(BEYOND);
        if (w.inSet().isEmpty()) return error(STATE);
        int who = -1;
        int most = -1;
        for (Jumper j : w.inSet()) {
            int fail = 0;
            for (int t = 0; t < 64; t++) {
                boolean alone = w.fails(j, t);
                for (Jumper other : w.inSet()) alone &= other == j || !w.fails(other, t);
                fail += alone ? 1 : 0;
            }
            if (fail > most) {
                most = fail;
                who = j.k;
            }
        }
        return what == 0 ? who : most;
    }

    int soon(int treaty) {
        if (out(treaty, 0, 63)) return error(BEYOND);
        World thought = w.copy();
        for (int behind = 0; behind < 100; behind++) {
            boolean is = !thought.inSet().isEmpty() && thought.turns() && thought.beat % 4 != 3;
            if (is && thought.taken(treaty)) return behind;
            thought.goBeat();
        }
        return error(NONE);
    }

    int meets(int a, int m, int b, int n) {
        if (out(m, 1, 30) || out(n, 1, 30) || out(a, 0, m - 1) || out(b, 0, n - 1)) return error(BEYOND);
        for (int beat = w.beat; beat < w.beat + 2000; beat++) if (beat % m == a && beat % n == b) return beat;
        return error(NONE);
    }

    int odds(int jumper, int part) {
        if (no(jumper) || out(part, 0, 1)) return error(BEYOND);
        int above = 0;
        for (int t = 0; t < 64; t++) above += w.fails(w.jumpers.get(jumper), t) ? 0 : 1;
        int below = 64;
        for (int by = 64; by > 1; by--) {
            if (above % by == 0 && below % by == 0) {
                above /= by;
                below /= by;
            }
        }
        return part == 0 ? above : below;
    }

    int fits(int sheet) {
        int wrong = sheetError(sheet);
        if (wrong != 0) return wrong;
        World thought = w.copy();
        List<Integer> row = new ArrayList<>();
        for (int v : sheets[sheet]) row.add(v);
        for (int behind = 0; behind < 100; behind++) {
            List<Integer> breaths = breathsOf(thought);
            if (row.size() <= breaths.size() && breaths.subList(0, row.size()).equals(row)) return behind;
            thought.goBeat();
        }
        return error(NONE);
    }

    int voice(int jumper, int voice, int x) {
        if (no(jumper) || out(voice, 0, 3)) return error(BEYOND);
        Jumper j = w.jumpers.get(jumper);
        trace = new ArrayList<>();
        j.trace = trace;
        try {
            return voice == 0 ? j.sings(x) : voice == 1 ? j.jumps(x) : voice == 2 ? j.claps(x) : j.parts(x);
        } catch (Parting p) {
            return error(PARTED);
        }
    }

    int body(int i) { return out(i, 0, Math.min(30, trace.size()) - 1) ? error(NONE) : trace.get(i); }

    int sheet(int sheet, int b, int n) {
        if (out(sheet, 0, 3) || bitsOff(b)) return error(BEYOND);
        if (b == 0) {
            sheets[sheet] = null;
            return 1;
        }
        if (n < 0) return error(STATE);
        if (n > 24) return error(BEYOND);
        sheets[sheet] = new int[n];
        bits[sheet] = b;
        return 1;
    }

    int put(int sheet, int i, int v) {
        int wrong = sheetError(sheet);
        if (wrong != 0) return wrong;
        if (out(i, 0, sheets[sheet].length - 1)) return error(BEYOND);
        // Signed here, unsigned there: nothing that the document names may tell the two apart.
        sheets[sheet][i] = bits[sheet] == 8 ? (byte) v : bits[sheet] == 16 ? (short) v : v;
        return 1;
    }

    int move(int sheet, int i, int other, int j, int n) {
        if (out(sheet, 0, 3) || out(other, 0, 3)) return error(BEYOND);
        if (sheets[sheet] == null || sheets[other] == null) return error(NONE);
        if (bits[sheet] != bits[other]) return error(KIND);
        long from = (long) i + n;
        long to = (long) j + n;
        if (i < 0 || j < 0 || n < 0 || from > sheets[sheet].length || to > sheets[other].length) return error(BEYOND);
        int[] were = sheets[sheet].clone();
        for (int s = 0; s < n; s++) sheets[other][j + s] = were[i + s];
        return n;
    }

    int breaths(int sheet) {
        int wrong = sheetError(sheet);
        if (wrong != 0) return wrong;
        int become = 0;
        for (int v : sheets[sheet]) {
            if (out(v, 0, 99) || become == w.jumpers.size()) return become;
            w.jumpers.get(become++).breath = v;
        }
        return become;
    }

    int judge(int sheet) {
        int wrong = sheetError(sheet);
        if (wrong != 0) return wrong;
        int right = 0;
        for (int v : sheets[sheet]) {
            if (right == w.jumpers.size() || w.costs(w.jumpers.get(right)) != v) return right;
            right++;
        }
        return right;
    }

    int image() {
        kept = w.copy();
        return ++images;
    }

    int restore() {
        if (kept == null) return error(NONE);
        w = kept.copy();
        return w.beat;
    }

    int tell(int v) {
        if (w.waiting.size() == 24) return error(FULL);
        w.waiting.add(v);
        return w.waiting.size();
    }

    int check() {
        List<Integer> waited = w.waiting;
        w.waiting = new ArrayList<>();
        List<Integer> breaths = breathsOf(w);
        for (int i = 0; i < waited.size(); i++) {
            if (i >= breaths.size() || !breaths.get(i).equals(waited.get(i))) return 1 + i;
        }
        return 0;
    }

    int count(int what) {
        if (out(what, 0, 11)) return error(BEYOND);
        int set = 0;
        for (Jumper j : w.inSet()) set += 1 << j.k;
        return new int[] {w.jumpers.size(), set, w.beat, w.treaty, w.misses, w.arms[0], w.arms[1], w.bar,
            w.tape.length(), w.waiting.size(), Math.min(30, trace.size()), w.z}[what];
    }

    int told(int k) { return out(k, 1, 6) ? error(BEYOND) : told[k]; }
}
