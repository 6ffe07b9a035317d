import java.nio.charset.StandardCharsets;

/** Compares answers with those that are due, counts, and ends a test program. */
final class Due {
    static final int BEYOND = -1000000001;
    static final int NONE = -1000000002;
    static final int STATE = -1000000003;
    static final int FULL = -1000000004;
    static final int KIND = -1000000005;
    static final int PARTED = -1000000006;

    private final String name;
    private String test = "";
    private int right;
    private int wrong;

    Due(String name) {
        this.name = name;
    }

    /** Names the test whose answers come now. */
    void begins(String named) {
        test = named + ": ";
    }

    void is(String call, long got, long want) {
        if (got == want) {
            right++;
            return;
        }
        wrong++;
        if (wrong <= 40) {
            System.out.println(name + ": " + test + call + " answered " + got + ", due is " + want);
        }
    }

    void end() {
        System.out.println(name + ": " + right + " answers are as due, " + wrong + " are not");
        if (wrong != 0 || right == 0) {
            System.exit(1);
        }
    }

    /** Feeds a text whole, eight bytes a word. */
    static void feed(RopeTreaty x, String text) {
        byte[] bytes = text.getBytes(StandardCharsets.ISO_8859_1);
        for (int from = 0; from < bytes.length; from += 8) {
            int n = Math.min(8, bytes.length - from);
            long word = 0;
            for (int i = 0; i < n; i++) {
                word |= (bytes[from + i] & 255L) << (8 * i);
            }
            x.feed(word, n);
        }
    }

    static int text(RopeTreaty x, int use, String text) {
        feed(x, text);
        return x.text(use);
    }

    static RopeTreaty beaten(int beats) {
        RopeTreaty x = new RopeTreaty();
        for (int left = beats; left > 0; left -= 99) {
            x.beats(Math.min(99, left));
        }
        return x;
    }
}
