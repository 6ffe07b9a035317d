import java.lang.reflect.InvocationTargetException;
import java.lang.reflect.Method;
import java.util.ArrayList;
import java.util.Arrays;
import java.util.Comparator;
import java.util.List;
import java.util.function.Supplier;

/**
 * What the tests of the document's edges share. A class of them has one method for each sentence that names an edge,
 * its name begins with the number of the promise (p07_..) or of the section of the Terms (s1_..), e_ for ERRORS.
 * A call that may change nothing is made on one of two objects treated alike; what both answer then is compared.
 */
final class Edges {
    static final int MIN = Integer.MIN_VALUE;
    static final int MAX = Integer.MAX_VALUE;
    private static final String TEST_NAME = "(e|s[1-4]|p[0-9][0-9])_.*";
    private static final int SHEETS = 4;
    private static final int NUMBERS = 24;

    interface Call {
        long on(RopeTreaty x);
    }

    interface IntCall {
        long on(RopeTreaty x, int v);
    }

    private final Due due;

    Edges(Due due) {
        this.due = due;
    }

    /** Runs every test of a class, so that none can be forgotten, and ends the program. */
    static void run(Class<?> tests, Due due) {
        Method[] all = tests.getDeclaredMethods();
        Arrays.sort(all, Comparator.comparing(Method::getName));
        int ran = 0;
        for (Method test : all) {
            if (test.getName().matches(TEST_NAME) && test.getParameterCount() == 0) {
                ran++;
                one(test, due);
            }
        }
        System.out.println(tests.getName() + ": " + ran + " tests");
        due.is("tests ran", ran > 0 ? 1 : 0, 1);
        due.end();
    }

    private static void one(Method test, Due due) {
        due.begins(test.getName());
        test.setAccessible(true);
        try {
            test.invoke(null);
        } catch (InvocationTargetException thrown) {
            due.is("threw " + thrown.getCause(), 1, 0);
        } catch (IllegalAccessException closed) {
            due.is("is closed: " + closed, 1, 0);
        }
    }

    // ---- objects to begin with

    static RopeTreaty fresh() {
        return new RopeTreaty();
    }

    /** One of which nothing is as at first: BEAT 6 (VINEGAR), five JUMPERS, of whom 0, 1, 4 are IN; room for one more. */
    static RopeTreaty busy() {
        RopeTreaty x = new RopeTreaty();
        x.jumper(5, 50, 0);
        x.jumper(13, 60, 1);
        x.jumper(28, 0, 1);
        x.jumper(34, 70, 0);
        x.jumper(57, 99, 1);
        x.jump(2, 1);
        x.beats(5);
        x.jump(0, 1);
        x.bar(20);
        x.talk(0, 44);
        Due.text(x, 0, "c+p/2");
        Due.text(x, 1, "l+s*2");
        Due.feed(x, "b");
        x.tell(x.jumperIs(0, 2));
        x.image();
        x.check();
        x.jump(1, 1);
        x.jump(4, 1);
        x.beats(1);
        x.spell(1, 70);
        x.bar(21);
        x.seed(-7);
        Due.feed(x, "+c*2");
        x.tell(x.jumperIs(0, 2));
        x.tell(x.jumperIs(1, 2));
        sheets(x);
        x.voice(4, 2, 9);
        return x;
    }

    /** Three SHEETS of unlike bits and lengths; the fourth is missing. */
    private static void sheets(RopeTreaty x) {
        for (int s = 0; s < SHEETS - 1; s++) {
            int n = 6 - s;
            x.sheet(s, 8 << s, n);
            for (int i = 0; i < n; i++) {
                x.put(s, i, 11 + 30 * s + i);
            }
        }
    }

    /** As busy(), with six JUMPERS. */
    static RopeTreaty crowded() {
        RopeTreaty x = busy();
        x.jumper(42, 33, 0);
        return x;
    }

    /** As busy(), but the rope doesn't TURN. */
    static RopeTreaty still() {
        RopeTreaty x = busy();
        x.spell(1, 0);
        return x;
    }

    /** As busy(), but nobody is IN. */
    static RopeTreaty lonely() {
        RopeTreaty x = busy();
        for (int j = 0; j < 5; j++) {
            x.jump(j, 0);
        }
        return x;
    }

    /** As busy(), a BEAT later: the WORD is PEPPER. */
    static RopeTreaty pepper() {
        RopeTreaty x = busy();
        x.beats(1);
        return x;
    }

    // ---- calls that change nothing

    /** A call answers an ERROR, which is counted once, and changes nothing else. */
    void refused(String call, Supplier<RopeTreaty> made, Call refusedCall, int error) {
        RopeTreaty x = made.get();
        RopeTreaty twin = made.get();
        due.is(call, refusedCall.on(x), error);
        alike(call, x, twin, -1000000000 - error);
    }

    /** A call answers what is due, is no ERROR, and changes nothing. */
    void unchanged(String call, Supplier<RopeTreaty> made, Call asking, long want) {
        RopeTreaty x = made.get();
        RopeTreaty twin = made.get();
        due.is(call, asking.on(x), want);
        alike(call, x, twin, 0);
    }

    /** An argument may be least .. most: those beside them, and the least and greatest of all ints, are BEYOND. */
    void outside(String call, Supplier<RopeTreaty> made, IntCall refusedCall, int least, int most) {
        beyond(call, made, refusedCall, MIN, least - 1, most + 1, MAX);
    }

    void beyond(String call, Supplier<RopeTreaty> made, IntCall refusedCall, int... values) {
        for (int v : values) {
            refused(call + " of " + v, made, x -> refusedCall.on(x, v), Due.BEYOND);
        }
    }

    /** All that two objects can be asked is answered alike, but that one has told the ERROR k (0: none) once more. */
    void alike(String when, RopeTreaty x, RopeTreaty twin, int k) {
        for (int e = 1; e <= 6; e++) {
            due.is(when + ", told(" + e + ")", x.told(e), twin.told(e) + (e == k ? 1 : 0));
        }
        Answers got = new Answers(x);
        Answers want = new Answers(twin);
        for (int i = 0; i < want.numbers.size(); i++) {
            due.is(when + ", then " + want.names.get(i), got.numbers.get(i), want.numbers.get(i));
        }
    }

    /** What an object answers when it is asked all that it holds, in some 300 calls. */
    private static final class Answers {
        final List<String> names = new ArrayList<>();
        final List<Long> numbers = new ArrayList<>();
        private final RopeTreaty x;

        Answers(RopeTreaty x) {
            this.x = x;
            state("now");
            bodies();
            for (int s = 0; s < SHEETS; s++) {
                shape(s);
            }
            is("check()", x.check());
            for (int s = 0; s < SHEETS; s++) {
                numbersOf(s);
            }
            is("text(0)", x.text(0));
            laws("by the tape");
            is("restore()", x.restore());
            state("restored");
            is("restored check()", x.check());
            is("restored text(0)", x.text(0));
            laws("by the restored tape");
            is("image()", x.image());
        }

        private void is(String name, long number) {
            names.add(name);
            numbers.add(number);
        }

        private void state(String when) {
            for (int what = 0; what < 12; what++) {
                is(when + " count(" + what + ")", x.count(what));
            }
            for (int j = 0; j < 6; j++) {
                for (int what = 0; what < 6; what++) {
                    is(when + " jumperIs(" + j + ", " + what + ")", x.jumperIs(j, what));
                }
            }
            laws(when);
        }

        private void laws(String when) {
            is(when + " law(0, 5, 1, 3)", x.law(0, 5, 1, 3));
            is(when + " law(0, 2, 3, 0)", x.law(0, 2, 3, 0));
            is(when + " law(1, 17, 9, 1)", x.law(1, 17, 9, 1));
            is(when + " law(1, 40, 2, 0)", x.law(1, 40, 2, 0));
        }

        private void bodies() {
            for (int i = 0; i < 8; i++) {
                is("body(" + i + ")", x.body(i));
            }
        }

        /** Of how many bits a sheet is, next to others, and of how many numbers. */
        private void shape(int s) {
            for (int other = 0; other < SHEETS; other++) {
                is("move(" + s + ", 0, " + other + ", 0, 0)", x.move(s, 0, other, 0, 0));
            }
            int n = NUMBERS;
            while (n > 0 && x.move(s, 0, s, 0, n) < 0) {
                n--;
            }
            is("numbers of sheet " + s, n);
        }

        /** The first numbers of a sheet, as BREATH. */
        private void numbersOf(int s) {
            is("judge(" + s + ")", x.judge(s));
            is("fits(" + s + ")", x.fits(s));
            is("breaths(" + s + ")", x.breaths(s));
            for (int j = 0; j < 6; j++) {
                is("breath " + j + " by sheet " + s, x.jumperIs(j, 2));
            }
        }
    }
}
