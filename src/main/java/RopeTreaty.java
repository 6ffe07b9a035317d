/** Skipping as a treaty: jumpers, those who turn, treaties, texts, sheets and images (see shared/DOC.md). */
public final class RopeTreaty {
    private static final int LOW = -1000000000;
    private static final int BEYOND = 1;
    private static final int NONE = 2;
    private static final int STATE = 3;
    private static final int FULL = 4;
    private static final int KIND = 5;
    private static final int PARTED = 6;

    private static final int JUMPER = 0;
    private static final int MASTER = 1;
    private static final int CON = 2;
    private static final int CHILD = 3;
    private static final int BAILIFF = 4;
    private static final int RUNNER = 5;
    private static final int OLD = 6;
    private static final int KINDS = 7;
    /** The kind above each kind; -1 above the first. */
    private static final int[] ABOVE = {-1, JUMPER, JUMPER, JUMPER, MASTER, CON, JUMPER};

    private static final int JUMPERS = 6;
    private static final int TREATIES = 64;
    private static final int NO_TREATY = -1;
    private static final int FIRST_BAR = 30;
    private static final int MOST = 99;
    private static final int LAST_BEAT = 99999;
    private static final int MOST_MISSES = 99999;
    private static final int WORDS = 4;
    private static final int PEPPER = 3;

    private static final int COSTS = 0;
    private static final int LIKES = 1;
    private static final int USES = 2;
    private static final int MOST_COST = 20;
    private static final int TAPE = 60;
    private static final int FEED = 8;
    private static final int NO_FAULT = -1;

    private static final int SHEETS = 4;
    private static final int NUMBERS = 24;
    private static final int MOST_LOOSE = 30;
    private static final int MOST_DIVISOR = 30;

    private final Rope now = new Rope();
    private final Rope thought = new Rope();
    private final Rope kept = new Rope();
    private final Tape tape = new Tape();
    private final Tape keptTape = new Tape();
    private final Reader reader = new Reader();
    private final Row waiting = new Row();
    private final Row keptWaiting = new Row();
    private final Row[] sheets = new Row[SHEETS];
    private final Throat throat = new Throat();
    private final int[] errors = new int[PARTED + 1];
    private int images;

    public RopeTreaty() {
        for (int i = 0; i < SHEETS; i++) {
            sheets[i] = new Row();
        }
    }

    // ---- jumpers, turners

    public int jumper(int km, int breath, int side) {
        if (!isKindAndMark(km) || !isWithin(breath, MOST) || !isWithin(side, 1)) {
            return error(BEYOND);
        }
        if (now.jumpers >= JUMPERS) {
            return error(FULL);
        }
        return now.add(km, breath, side);
    }

    public int jumperIs(int jumper, int what) {
        if (!now.has(jumper)) {
            return error(BEYOND);
        }
        switch (what) {
            case 0: return now.kind[jumper];
            case 1: return now.mark[jumper];
            case 2: return now.breath[jumper];
            case 3: return now.side[jumper];
            case 4: return now.in[jumper];
            case 5: return now.costs(jumper);
            default: return error(BEYOND);
        }
    }

    public int become(int jumper, int km) {
        if (!now.has(jumper) || !isKindAndMark(km)) {
            return error(BEYOND);
        }
        int was = now.kind[jumper];
        now.setKindAndMark(jumper, km);
        return was;
    }

    public int as(int jumper, int kind) {
        if (!now.has(jumper) || !isWithin(kind, KINDS - 1)) {
            return error(BEYOND);
        }
        return isUnder(now.kind[jumper], kind) ? now.mark[jumper] : error(KIND);
    }

    public int jump(int jumper, int in) {
        if (!now.has(jumper) || !isWithin(in, 1)) {
            return error(BEYOND);
        }
        if (in == 1 && !now.turns()) {
            return error(STATE);
        }
        int was = now.in[jumper];
        now.in[jumper] = in;
        return was;
    }

    public int rest(int jumper, int breath) {
        if (!now.has(jumper) || !isWithin(breath, MOST)) {
            return error(BEYOND);
        }
        int was = now.breath[jumper];
        now.breath[jumper] = breath;
        return was;
    }

    public int spell(int turner, int arm) {
        if (!isWithin(turner, 1) || !isWithin(arm, MOST)) {
            return error(BEYOND);
        }
        int was = now.arm[turner];
        now.arm[turner] = arm;
        return was;
    }

    public int bar(int v) {
        if (!isWithin(v, MOST)) {
            return error(BEYOND);
        }
        int was = now.bar;
        now.bar = v;
        return was;
    }

    public int liking(int jumper, int treaty) {
        if (!now.has(jumper) || !isTreaty(treaty)) {
            return error(BEYOND);
        }
        return now.likes(jumper, treaty);
    }

    public int talk(int jumper, int treaty) {
        if (!now.has(jumper) || !isTreaty(treaty)) {
            return error(BEYOND);
        }
        if (now.in[jumper] == 0 || !now.mayTalk()) {
            return error(STATE);
        }
        if (!now.isTaken(treaty)) {
            return 0;
        }
        now.treaty = treaty;
        return 1;
    }

    // ---- texts

    public int feed(long word, int n) {
        if (n < 1 || n > FEED) {
            return error(BEYOND);
        }
        if (n > TAPE - tape.length) {
            return error(FULL);
        }
        tape.add(word, n);
        return tape.length;
    }

    public int text(int use) {
        if (!isUse(use)) {
            return error(BEYOND);
        }
        int fault = reader.read(tape, use);
        tape.length = 0;
        if (fault != NO_FAULT) {
            return -10 - fault;
        }
        now.texts[use].learn(reader.code, reader.codes);
        return 1;
    }

    public int untell(int use) {
        if (!isUse(use)) {
            return error(BEYOND);
        }
        int was = now.texts[use].isTold() ? 1 : 0;
        now.texts[use].length = 0;
        return was;
    }

    public int law(int use, int a, int b, int c) {
        return isUse(use) ? now.texts[use].gives(a, b, c) : error(BEYOND);
    }

    // ---- beats

    public int beats(int n) {
        if (n < 1 || n > MOST) {
            return error(BEYOND);
        }
        if (now.beat + n > LAST_BEAT) {
            return error(STATE);
        }
        int missed = 0;
        for (int i = 0; i < n; i++) {
            missed += now.pass();
        }
        return missed;
    }

    public int loose(int n) {
        if (n < 1 || n > MOST_LOOSE) {
            return error(BEYOND);
        }
        if (now.beat + n > LAST_BEAT) {
            return error(STATE);
        }
        int taken = 0;
        for (int i = 0; i < n; i++) {
            taken += now.passByDraws();
        }
        return taken;
    }

    public int seed(int v) {
        int was = now.z;
        now.z = v;
        return was;
    }

    // ---- what is, what would be

    public int then(int jumper, int n, int what) {
        if (!now.has(jumper) || !isWithin(n, MOST) || !isWithin(what, 1)) {
            return error(BEYOND);
        }
        thought.copy(now);
        for (int i = 0; i < n; i++) {
            thought.pass();
        }
        return what == 0 ? thought.breath[jumper] : thought.in[jumper];
    }

    public int lasts(int jumper) {
        if (!now.has(jumper)) {
            return error(BEYOND);
        }
        if (now.in[jumper] == 0) {
            return error(STATE);
        }
        thought.copy(now);
        for (int behind = 1; behind <= MOST; behind++) {
            thought.pass();
            if (thought.in[jumper] == 0) {
                return behind;
            }
        }
        return error(NONE);
    }

    public int agree(int what) {
        if (!isWithin(what, 1)) {
            return error(BEYOND);
        }
        int taken = 0;
        for (int treaty = 0; treaty < TREATIES; treaty++) {
            if (now.isTaken(treaty)) {
                if (what == 1) {
                    return treaty;
                }
                taken++;
            }
        }
        return what == 1 ? error(NONE) : taken;
    }

    public int fairest(int what) {
        if (!isWithin(what, 1)) {
            return error(BEYOND);
        }
        if (now.howManyIn() == 0) {
            return error(STATE);
        }
        int best = 0;
        int most = -1;
        for (int treaty = 0; treaty < TREATIES; treaty++) {
            int least = now.leastLiking(treaty);
            if (least > most) {
                best = treaty;
                most = least;
            }
        }
        return what == 0 ? best : most;
    }

    public int balks(int what) {
        if (!isWithin(what, 1)) {
            return error(BEYOND);
        }
        if (now.howManyIn() == 0) {
            return error(STATE);
        }
        int who = now.whoBalks();
        return what == 0 ? who : now.alone[who];
    }

    public int soon(int treaty) {
        if (!isTreaty(treaty)) {
            return error(BEYOND);
        }
        thought.copy(now);
        for (int behind = 0; behind <= MOST; behind++) {
            if (thought.howManyIn() > 0 && thought.mayTalk() && thought.isTaken(treaty)) {
                return behind;
            }
            thought.pass();
        }
        return error(NONE);
    }

    public int meets(int a, int m, int b, int n) {
        if (!isRest(a, m) || !isRest(b, n)) {
            return error(BEYOND);
        }
        // The two rests come again behind m times n beats at the latest.
        for (int i = 0; i < m * n; i++) {
            int beat = now.beat + i;
            if (beat % m == a && beat % n == b) {
                return beat;
            }
        }
        return error(NONE);
    }

    public int odds(int jumper, int part) {
        if (!now.has(jumper) || !isWithin(part, 1)) {
            return error(BEYOND);
        }
        int above = 0;
        for (int treaty = 0; treaty < TREATIES; treaty++) {
            if (now.likes(jumper, treaty) >= now.bar) {
                above++;
            }
        }
        // All that divides 64 is a power of 2; so is the lowest bit, that of 0 / 64 being 64.
        int common = above == 0 ? TREATIES : above & -above;
        return (part == 0 ? above : TREATIES) / common;
    }

    public int fits(int sheet) {
        if (!isSheet(sheet)) {
            return error(BEYOND);
        }
        if (sheets[sheet].isMissing()) {
            return error(NONE);
        }
        thought.copy(now);
        for (int behind = 0; behind <= MOST; behind++) {
            if (thought.breathsRight(sheets[sheet]) == sheets[sheet].length) {
                return behind;
            }
            thought.pass();
        }
        return error(NONE);
    }

    // ---- voices, sheets, images, what is told

    public int voice(int jumper, int voice, int x) {
        if (!now.has(jumper) || !isWithin(voice, Throat.VOICES - 1)) {
            return error(BEYOND);
        }
        int said = throat.speak(now.kind[jumper], jumper, now.mark[jumper], voice, x);
        return throat.parted ? error(PARTED) : said;
    }

    public int body(int i) {
        return i >= 0 && i < throat.begun ? throat.trace[i] : error(NONE);
    }

    public int sheet(int sheet, int bits, int n) {
        if (!isSheet(sheet) || !isBits(bits)) {
            return error(BEYOND);
        }
        if (bits != 0 && n < 0) {
            return error(STATE);
        }
        if (bits != 0 && n > NUMBERS) {
            return error(BEYOND);
        }
        sheets[sheet].begin(bits, bits == 0 ? 0 : n);
        return 1;
    }

    public int put(int sheet, int i, int v) {
        if (!isSheet(sheet)) {
            return error(BEYOND);
        }
        if (sheets[sheet].isMissing()) {
            return error(NONE);
        }
        if (i < 0 || i >= sheets[sheet].length) {
            return error(BEYOND);
        }
        sheets[sheet].numbers[i] = sheets[sheet].lowest(v);
        return 1;
    }

    public int move(int sheet, int i, int other, int j, int n) {
        if (!isSheet(sheet) || !isSheet(other)) {
            return error(BEYOND);
        }
        Row from = sheets[sheet];
        Row to = sheets[other];
        if (from.isMissing() || to.isMissing()) {
            return error(NONE);
        }
        if (from.bits != to.bits) {
            return error(KIND);
        }
        if (!from.holds(i, n) || !to.holds(j, n)) {
            return error(BEYOND);
        }
        System.arraycopy(from.numbers, i, to.numbers, j, n);
        return n;
    }

    public int breaths(int sheet) {
        if (!isSheet(sheet)) {
            return error(BEYOND);
        }
        return sheets[sheet].isMissing() ? error(NONE) : now.takeBreaths(sheets[sheet]);
    }

    public int judge(int sheet) {
        if (!isSheet(sheet)) {
            return error(BEYOND);
        }
        return sheets[sheet].isMissing() ? error(NONE) : now.costsRight(sheets[sheet]);
    }

    public int image() {
        kept.copy(now);
        keptTape.copy(tape);
        keptWaiting.copy(waiting);
        images++;
        return images;
    }

    public int restore() {
        if (images == 0) {
            return error(NONE);
        }
        now.copy(kept);
        tape.copy(keptTape);
        waiting.copy(keptWaiting);
        return now.beat;
    }

    public int tell(int v) {
        if (waiting.length >= NUMBERS) {
            return error(FULL);
        }
        waiting.numbers[waiting.length] = v;
        waiting.length++;
        return waiting.length;
    }

    public int check() {
        int waited = waiting.length;
        int right = now.breathsRight(waiting);
        waiting.length = 0;
        return right == waited ? 0 : 1 + right;
    }

    public int count(int what) {
        switch (what) {
            case 0: return now.jumpers;
            case 1: return now.setIn();
            case 2: return now.beat;
            case 3: return now.treaty;
            case 4: return now.misses;
            case 5: return now.arm[0];
            case 6: return now.arm[1];
            case 7: return now.bar;
            case 8: return tape.length;
            case 9: return waiting.length;
            case 10: return throat.begun;
            case 11: return now.z;
            default: return error(BEYOND);
        }
    }

    public int told(int k) {
        return k >= BEYOND && k <= PARTED ? errors[k] : error(BEYOND);
    }

    // ---- what is asked of arguments

    /** Counts an error: what an act answers that tells it. */
    private int error(int k) {
        errors[k]++;
        return LOW - k;
    }

    private static boolean isWithin(int v, int most) {
        return v >= 0 && v <= most;
    }

    private static boolean isKindAndMark(int km) {
        return isWithin(km, 10 * KINDS - 1);
    }

    private static boolean isTreaty(int treaty) {
        return isWithin(treaty, TREATIES - 1);
    }

    private static boolean isUse(int use) {
        return isWithin(use, USES - 1);
    }

    private static boolean isSheet(int sheet) {
        return isWithin(sheet, SHEETS - 1);
    }

    private static boolean isBits(int bits) {
        return bits == 0 || bits == 8 || bits == 16 || bits == 32;
    }

    private static boolean isRest(int rest, int divisor) {
        return divisor >= 1 && divisor <= MOST_DIVISOR && isWithin(rest, divisor - 1);
    }

    /** Whether a kind is another one, or stands under it. */
    private static boolean isUnder(int kind, int other) {
        int at = kind;
        for (int i = 0; i < KINDS && isWithin(at, KINDS - 1); i++) {
            if (at == other) {
                return true;
            }
            at = ABOVE[at];
        }
        return false;
    }

    /** The rope, who turns it or jumps in it, by which texts: as it is now, as it is thought, as an image keeps it. */
    private static final class Rope {
        /** What the uses give: COSTS, LIKES. */
        final Text[] texts = {new Text(MOST_COST), new Text(MOST)};
        final int[] kind = new int[JUMPERS];
        final int[] mark = new int[JUMPERS];
        final int[] breath = new int[JUMPERS];
        final int[] side = new int[JUMPERS];
        final int[] in = new int[JUMPERS];
        final int[] arm = {MOST, MOST};
        /** What the beat that goes by costs each: made once, used by every beat. */
        final int[] price = new int[JUMPERS];
        /** How many treaties fail on each alone: made once, used by every whoBalks(). */
        final int[] alone = new int[JUMPERS];
        int jumpers;
        int beat;
        int treaty = NO_TREATY;
        int bar = FIRST_BAR;
        int misses;
        int z = 1;

        /** All becomes as another rope has it. */
        void copy(Rope other) {
            texts[COSTS].copy(other.texts[COSTS]);
            texts[LIKES].copy(other.texts[LIKES]);
            System.arraycopy(other.kind, 0, kind, 0, JUMPERS);
            System.arraycopy(other.mark, 0, mark, 0, JUMPERS);
            System.arraycopy(other.breath, 0, breath, 0, JUMPERS);
            System.arraycopy(other.side, 0, side, 0, JUMPERS);
            System.arraycopy(other.in, 0, in, 0, JUMPERS);
            System.arraycopy(other.arm, 0, arm, 0, arm.length);
            jumpers = other.jumpers;
            beat = other.beat;
            treaty = other.treaty;
            bar = other.bar;
            misses = other.misses;
            z = other.z;
        }

        boolean has(int jumper) {
            return jumper >= 0 && jumper < jumpers;
        }

        int add(int km, int firstBreath, int firstSide) {
            int made = jumpers;
            jumpers++;
            setKindAndMark(made, km);
            breath[made] = firstBreath;
            side[made] = firstSide;
            in[made] = 0;
            return made;
        }

        void setKindAndMark(int jumper, int km) {
            kind[jumper] = km / 10;
            mark[jumper] = km % 10;
        }

        int word() {
            return beat % WORDS;
        }

        boolean turns() {
            return arm[0] > 0 && arm[1] > 0;
        }

        boolean mayTalk() {
            return turns() && word() != PEPPER;
        }

        int howManyIn() {
            return Integer.bitCount(setIn());
        }

        int setIn() {
            int set = 0;
            for (int j = 0; j < jumpers; j++) {
                set |= in[j] << j;
            }
            return set;
        }

        int takes(int jumper) {
            int plain = 1 + word();
            switch (kind[jumper]) {
                case MASTER: return plain + 1;
                case CHILD: return 1;
                case BAILIFF: return plain + 1 + howManyIn();
                case RUNNER: return plain / 2;
                case OLD: return 2 * plain;
                default: return plain;
            }
        }

        int leans(int jumper, int toTreaty) {
            int plain = 10 * Integer.bitCount(toTreaty & (7 * mark[jumper] + 9));
            switch (kind[jumper]) {
                case MASTER: return 60 - plain;
                case CON: return plain + 5 * side[jumper];
                case CHILD: return 40 + toTreaty % 5;
                case BAILIFF: return 60 - plain - 10;
                case RUNNER: return plain + 5 * side[jumper] + beat % 7;
                case OLD: return plain / 2 + mark[jumper];
                default: return plain;
            }
        }

        int costs(int jumper) {
            return texts[COSTS].gives(takes(jumper), word(), howManyIn());
        }

        int likes(int jumper, int aTreaty) {
            return texts[LIKES].gives(leans(jumper, aTreaty), aTreaty, side[jumper]);
        }

        boolean isTaken(int aTreaty) {
            for (int j = 0; j < jumpers; j++) {
                if (in[j] == 1 && likes(j, aTreaty) < bar) {
                    return false;
                }
            }
            return true;
        }

        /** How he likes a treaty who is in and likes it least. */
        int leastLiking(int aTreaty) {
            int least = MOST;
            for (int j = 0; j < jumpers; j++) {
                if (in[j] == 1) {
                    least = Math.min(least, likes(j, aTreaty));
                }
            }
            return least;
        }

        /** On whom alone most treaties fail of those in; alone[] tells how many do. */
        int whoBalks() {
            for (int j = 0; j < jumpers; j++) {
                alone[j] = 0;
            }
            for (int t = 0; t < TREATIES; t++) {
                int only = onlyAgainst(t);
                if (only >= 0) {
                    alone[only]++;
                }
            }
            int who = -1;
            for (int j = 0; j < jumpers; j++) {
                if (in[j] == 1 && (who < 0 || alone[j] > alone[who])) {
                    who = j;
                }
            }
            return Math.max(who, 0);
        }

        /** The one of those in who alone likes a treaty less than the bar; -1 if nobody or several do. */
        private int onlyAgainst(int aTreaty) {
            int only = -1;
            for (int j = 0; j < jumpers; j++) {
                if (in[j] == 1 && likes(j, aTreaty) < bar) {
                    if (only >= 0) {
                        return -1;
                    }
                    only = j;
                }
            }
            return only;
        }

        /** A beat goes by: how many missed. */
        int pass() {
            int missed = 0;
            if (turns()) {
                for (int j = 0; j < jumpers; j++) {
                    price[j] = costs(j);
                }
                for (int j = 0; j < jumpers; j++) {
                    missed += skip(j);
                }
                arm[0]--;
                arm[1]--;
            }
            misses = Math.min(MOST_MISSES, misses + missed);
            beat++;
            return missed;
        }

        /** One jumper's part of a beat: 1 if he missed, else 0. */
        private int skip(int jumper) {
            if (in[jumper] == 0) {
                breath[jumper] = Math.min(MOST, breath[jumper] + 1);
                return 0;
            }
            if (breath[jumper] < price[jumper]) {
                in[jumper] = 0;
                return 1;
            }
            breath[jumper] -= price[jumper];
            return 0;
        }

        /** A beat by draws: 1 if a treaty was taken, else 0. */
        int passByDraws() {
            int taken = 0;
            if (jumpers > 0) {
                int who = draw() % jumpers;
                int aTreaty = draw() % TREATIES;
                if (turns()) {
                    in[who] = 1;
                }
                if (in[who] == 1 && mayTalk() && isTaken(aTreaty)) {
                    treaty = aTreaty;
                    taken = 1;
                }
            }
            pass();
            return taken;
        }

        private int draw() {
            z = z * 1103515245 + 12345;
            return z >>> 8;
        }

        /** How many numbers of a row, from the first on, are breath of jumpers 0, 1, .. */
        int breathsRight(Row row) {
            int right = 0;
            while (right < row.length && right < jumpers && row.numbers[right] == breath[right]) {
                right++;
            }
            return right;
        }

        /** How many numbers of a row, from the first on, are what a beat costs jumpers 0, 1, .. now. */
        int costsRight(Row row) {
            int right = 0;
            while (right < row.length && right < jumpers && row.numbers[right] == costs(right)) {
                right++;
            }
            return right;
        }

        /** Numbers of a row become breath of jumpers 0, 1, ..: how many. */
        int takeBreaths(Row row) {
            int taken = 0;
            while (taken < row.length && taken < jumpers && isWithin(row.numbers[taken], MOST)) {
                breath[taken] = row.numbers[taken];
                taken++;
            }
            return taken;
        }
    }

    /** The bytes that wait to be read as a text. */
    private static final class Tape {
        final int[] bytes = new int[TAPE];
        int length;

        void add(long word, int n) {
            for (int i = 0; i < n && length < TAPE; i++) {
                bytes[length] = (int) (word >>> (8 * i)) & 255;
                length++;
            }
        }

        void copy(Tape other) {
            System.arraycopy(other.bytes, 0, bytes, 0, TAPE);
            length = other.length;
        }
    }

    /**
     * What a use gives. A text is held as codes that work on a stack: a number of 0 or more stands for itself,
     * -1 to -3 for the names, the negative of a sign for what the sign does.
     */
    private static final class Text {
        final int most;
        final int[] code = new int[TAPE];
        final int[] stack = new int[TAPE];
        /** How many codes there are; 0: there is no text. */
        int length;

        Text(int most) {
            this.most = most;
        }

        boolean isTold() {
            return length > 0;
        }

        void learn(int[] codes, int n) {
            System.arraycopy(codes, 0, code, 0, TAPE);
            length = n;
        }

        void copy(Text other) {
            learn(other.code, other.length);
        }

        int gives(int a, int b, int c) {
            int worth = isTold() ? work(a, b, c) : a;
            return Math.max(0, Math.min(most, worth));
        }

        private int work(int a, int b, int c) {
            int top = 0;
            for (int i = 0; i < length; i++) {
                int sign = code[i];
                if (sign == -'!' && top >= 1) {
                    stack[top - 1] = stack[top - 1] == 0 ? 1 : 0;
                } else if (sign < -3 && top >= 2) {
                    top--;
                    stack[top - 1] = join(-sign, stack[top - 1], stack[top]);
                } else if (sign >= -3 && top < TAPE) {
                    stack[top] = meaning(sign, a, b, c);
                    top++;
                }
            }
            return stack[0];
        }

        private static int meaning(int sign, int a, int b, int c) {
            switch (sign) {
                case -1: return a;
                case -2: return b;
                case -3: return c;
                default: return sign;
            }
        }

        private static int join(int sign, int left, int right) {
            switch (sign) {
                case '|': return left != 0 || right != 0 ? 1 : 0;
                case '&': return left != 0 && right != 0 ? 1 : 0;
                case '<': return left < right ? 1 : 0;
                case '=': return left == right ? 1 : 0;
                case '>': return left > right ? 1 : 0;
                case '+': return left + right;
                case '-': return left - right;
                case '*': return left * right;
                case '/': return right == 0 ? 0 : left / right;
                case '%': return right == 0 ? 0 : left % right;
                default: return 0;
            }
        }
    }

    /** Reads a tape as a text: a method for each level of signs, from the one that binds least. */
    private static final class Reader {
        private static final char[] NAMES = {'c', 'b', 'p', 'l', 't', 's'};
        private static final int NAMES_OF_USE = 3;
        private static final int MOST_DIGITS = 4;
        private static final int MOST_OPEN = 5;

        final int[] code = new int[TAPE];
        int codes;
        private final int[] bytes = new int[TAPE];
        private int length;
        private int place;
        private int use;
        private boolean failed;

        /** The fault; NO_FAULT if there is none, and code tells the text then. */
        int read(Tape tape, int forUse) {
            System.arraycopy(tape.bytes, 0, bytes, 0, TAPE);
            length = tape.length;
            use = forUse;
            place = 0;
            codes = 0;
            failed = false;
            readOr(0);
            return failed || place < length ? place : NO_FAULT;
        }

        private void readOr(int open) {
            readAnd(open);
            for (int i = 0; i < TAPE && isNext('|'); i++) {
                place++;
                readAnd(open);
                write(-'|');
            }
        }

        private void readAnd(int open) {
            readLikeness(open);
            for (int i = 0; i < TAPE && isNext('&'); i++) {
                place++;
                readLikeness(open);
                write(-'&');
            }
        }

        private void readLikeness(int open) {
            readSum(open);
            if (isNext('<') || isNext('=') || isNext('>')) {
                int sign = bytes[place];
                place++;
                readSum(open);
                write(-sign);
            }
        }

        private void readSum(int open) {
            readProduct(open);
            for (int i = 0; i < TAPE && (isNext('+') || isNext('-')); i++) {
                int sign = bytes[place];
                place++;
                readProduct(open);
                write(-sign);
            }
        }

        private void readProduct(int open) {
            readPart(open);
            for (int i = 0; i < TAPE && (isNext('*') || isNext('/') || isNext('%')); i++) {
                int sign = bytes[place];
                place++;
                readPart(open);
                write(-sign);
            }
        }

        /** Reads a number, a name, or what a ! or ( opens, with so many of those open. */
        private void readPart(int open) {
            int name = nextName();
            if (name >= 0) {
                place++;
                write(-1 - name);
            } else if (isDigit()) {
                readNumber();
            } else if (open < MOST_OPEN && isNext('!')) {
                place++;
                readPart(open + 1);
                write(-'!');
            } else if (open < MOST_OPEN && isNext('(')) {
                place++;
                readOr(open + 1);
                close();
            } else {
                failed = true;
            }
        }

        private void readNumber() {
            int number = 0;
            for (int i = 0; i < MOST_DIGITS && isDigit(); i++) {
                number = number * 10 + bytes[place] - '0';
                place++;
            }
            write(number);
        }

        private void close() {
            if (isNext(')')) {
                place++;
            } else {
                failed = true;
            }
        }

        /** Which of the use's names comes next; -1 if none does. */
        private int nextName() {
            for (int i = 0; i < NAMES_OF_USE; i++) {
                int name = use * NAMES_OF_USE + i;
                if (name < NAMES.length && isNext(NAMES[name])) {
                    return i;
                }
            }
            return -1;
        }

        private boolean isDigit() {
            return !failed && place < length && bytes[place] >= '0' && bytes[place] <= '9';
        }

        private boolean isNext(char sign) {
            return !failed && place < length && bytes[place] == sign;
        }

        private void write(int sign) {
            if (codes < TAPE) {
                code[codes] = sign;
                codes++;
            }
        }
    }

    /** A row of numbers: a sheet, or the numbers that wait. */
    private static final class Row {
        final int[] numbers = new int[NUMBERS];
        /** 0: the sheet is missing. */
        int bits;
        int length;

        boolean isMissing() {
            return bits == 0;
        }

        void begin(int ofBits, int n) {
            bits = ofBits;
            length = n;
            for (int i = 0; i < NUMBERS; i++) {
                numbers[i] = 0;
            }
        }

        int lowest(int v) {
            return bits == 32 ? v : v & ((1 << bits) - 1);
        }

        boolean holds(int from, int n) {
            return from >= 0 && n >= 0 && n <= length && from <= length - n;
        }

        void copy(Row other) {
            System.arraycopy(other.numbers, 0, numbers, 0, NUMBERS);
            bits = other.bits;
            length = other.length;
        }
    }

    /** The voices, worked out by bodies that stand with kinds, and the trace of those that began. */
    private static final class Throat {
        static final int VOICES = 4;
        private static final int SINGS = 0;
        private static final int JUMPS = 1;
        private static final int CLAPS = 2;
        private static final int PARTS = 3;
        private static final int TRACE = 30;
        /** No voice has as many bodies open at once. */
        private static final int MOST_OPEN = 20;
        /** The bodies of each kind, by voices; 0: the kind above has it. */
        private static final int[] BODIES = {
            10, 11, 12, 13,
            20, 0, 0, 21,
            0, 30, 0, 0,
            0, 0, 40, 0,
            50, 0, 51, 0,
            0, 60, 0, 0,
            70, 71, 0, 0
        };

        final int[] trace = new int[TRACE];
        int begun;
        boolean parted;
        private int kind;
        private int number;
        private int mark;

        int speak(int ofKind, int ofNumber, int ofMark, int voice, int x) {
            kind = ofKind;
            number = ofNumber;
            mark = ofMark;
            begun = 0;
            parted = false;
            return say(kind, voice, x, 0);
        }

        /** A voice by the body of a kind, or of the next above that has one. */
        private int say(int from, int voice, int x, int open) {
            if (parted || open >= MOST_OPEN) {
                return 0;
            }
            int began = bodyOf(from, voice);
            if (begun < TRACE) {
                trace[begun] = began;
                begun++;
            }
            return work(began, x, open + 1);
        }

        private static int bodyOf(int from, int voice) {
            int at = from;
            for (int i = 0; i < KINDS && isWithin(at, KINDS - 1); i++) {
                if (BODIES[at * VOICES + voice] != 0) {
                    return BODIES[at * VOICES + voice];
                }
                at = ABOVE[at];
            }
            return 0;
        }

        private int work(int began, int x, int open) {
            switch (began) {
                case 10: return x + number;
                case 11: return say(kind, SINGS, x, open) * 2;
                case 12: return say(kind, JUMPS, x, open) - mark;
                case 13: return part(x);
                case 20: return say(JUMPER, SINGS, x, open) - 4;
                case 21: return say(JUMPER, PARTS, x, open) + say(kind, JUMPS, 1, open);
                case 30: return 0 - say(JUMPER, JUMPS, x, open);
                case 40: return say(JUMPER, CLAPS, x / 2, open);
                case 50: return say(MASTER, SINGS, x, open) * 3;
                case 51: return say(MASTER, CLAPS, x, open) ^ number;
                case 60: return say(CON, JUMPS, x + 1, open);
                case 70: return 9;
                case 71: return say(JUMPER, JUMPS, x, open) + mark;
                default: return 0;
            }
        }

        private int part(int x) {
            int by = mark - number;
            parted = by == 0;
            return parted ? 0 : x / by;
        }
    }
}
