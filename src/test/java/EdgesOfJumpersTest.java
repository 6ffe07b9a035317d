/** The edges that promises 1 to 11 name: a new object, jumpers, turners. */
public final class EdgesOfJumpersTest {
    private static final Due DUE = new Due("EdgesOfJumpersTest");
    private static final Edges EDGES = new Edges(DUE);

    public static void main(String[] args) {
        Edges.run(EdgesOfJumpersTest.class, DUE);
    }

    // ---- promise 1

    /** "All as at first". */
    private static void p01_allIsAsAtFirst() {
        RopeTreaty x = new RopeTreaty();
        int[] counts = {0, 0, 0, -1, 0, 99, 99, 30, 0, 0, 0, 1};
        for (int what = 0; what < counts.length; what++) {
            DUE.is("count(" + what + ")", x.count(what), counts[what]);
        }
    }

    /** "no JUMPERS": none can be asked. */
    private static void p01_noJumpers() {
        EDGES.refused("jumperIs(0, 0)", Edges::fresh, x -> x.jumperIs(0, 0), Due.BEYOND);
        EDGES.refused("jump(0, 0)", Edges::fresh, x -> x.jump(0, 0), Due.BEYOND);
        EDGES.refused("voice(0, 0, 0)", Edges::fresh, x -> x.voice(0, 0, 0), Due.BEYOND);
    }

    /** "no TEXTS". */
    private static void p01_noTexts() {
        EDGES.unchanged("untell(0)", Edges::fresh, x -> x.untell(0), 0);
        EDGES.unchanged("untell(1)", Edges::fresh, x -> x.untell(1), 0);
        EDGES.unchanged("law(0, 7, 1, 1)", Edges::fresh, x -> x.law(0, 7, 1, 1), 7);
        EDGES.unchanged("law(1, 7, 1, 1)", Edges::fresh, x -> x.law(1, 7, 1, 1), 7);
    }

    /** "All as at first": SHEETS are missing, THE TRACE is empty, nothing waits, there is no IMAGE. */
    private static void p01_nothingIsKept() {
        for (int s = 0; s < 4; s++) {
            int sheet = s;
            EDGES.refused("judge(" + s + ")", Edges::fresh, x -> x.judge(sheet), Due.NONE);
        }
        EDGES.refused("body(0)", Edges::fresh, x -> x.body(0), Due.NONE);
        EDGES.refused("restore()", Edges::fresh, x -> x.restore(), Due.NONE);
        EDGES.unchanged("check()", Edges::fresh, x -> x.check(), 0);
    }

    /** "All as at first": no ERRORS are told. */
    private static void p01_noErrorsAreTold() {
        RopeTreaty x = new RopeTreaty();
        for (int k = 1; k <= 6; k++) {
            DUE.is("told(" + k + ")", x.told(k), 0);
        }
    }

    /** "A new object": what was done with another one does not matter. */
    private static void p01_objectsHaveNothingInCommon() {
        RopeTreaty busy = Edges.busy();
        EDGES.alike("beside a busy one", new RopeTreaty(), new RopeTreaty(), 0);
        EDGES.alike("a busy one beside a new one", busy, Edges.busy(), 0);
    }

    // ---- promise 2

    /** "km: 10 times the KIND, and m": 0 is the least, 69 the greatest. */
    private static void p02_kmIs0To69() {
        RopeTreaty x = new RopeTreaty();
        DUE.is("km 0", x.jumper(0, 1, 0), 0);
        DUE.is("km 69", x.jumper(69, 1, 0), 1);
        DUE.is("KIND of 0", x.jumperIs(0, 0), 0);
        DUE.is("m of 0", x.jumperIs(0, 1), 0);
        DUE.is("KIND of 69", x.jumperIs(1, 0), 6);
        DUE.is("m of 69", x.jumperIs(1, 1), 9);
        EDGES.outside("jumper, km", Edges::busy, (y, v) -> y.jumper(v, 50, 0), 0, 69);
    }

    /** "BREATH (0 .. 99)", else "BEYOND". */
    private static void p02_breathIs0To99() {
        RopeTreaty x = new RopeTreaty();
        DUE.is("breath 0", x.jumper(0, 0, 0), 0);
        DUE.is("breath 99", x.jumper(0, 99, 0), 1);
        DUE.is("of the first", x.jumperIs(0, 2), 0);
        DUE.is("of the second", x.jumperIs(1, 2), 99);
        EDGES.outside("jumper, breath", Edges::busy, (y, v) -> y.jumper(11, v, 0), 0, 99);
    }

    /** "a SIDE (0, 1)", else "BEYOND". */
    private static void p02_sideIs0Or1() {
        RopeTreaty x = new RopeTreaty();
        DUE.is("side 0", x.jumper(0, 9, 0), 0);
        DUE.is("side 1", x.jumper(0, 9, 1), 1);
        DUE.is("of the first", x.jumperIs(0, 3), 0);
        DUE.is("of the second", x.jumperIs(1, 3), 1);
        EDGES.outside("jumper, side", Edges::busy, (y, v) -> y.jumper(11, 50, v), 0, 1);
    }

    /** "One more JUMPER: the number": the sixth is 5. */
    private static void p02_theSixthIsNumber5() {
        RopeTreaty x = Edges.busy();
        DUE.is("jumper", x.jumper(69, 99, 1), 5);
        DUE.is("count(0)", x.count(0), 6);
        DUE.is("he isn't IN", x.jumperIs(5, 4), 0);
    }

    /** "FULL": a seventh. */
    private static void p02_aSeventhIsFull() {
        EDGES.refused("jumper, a seventh", Edges::crowded, x -> x.jumper(0, 0, 0), Due.FULL);
    }

    /** "BEYOND. FULL.": in this order. */
    private static void p02_beyondIsAskedAheadOfFull() {
        EDGES.refused("jumper(70, ..), a seventh", Edges::crowded, x -> x.jumper(70, 0, 0), Due.BEYOND);
        EDGES.refused("jumper(.., 100, ..), a seventh", Edges::crowded, x -> x.jumper(0, 100, 0), Due.BEYOND);
        EDGES.refused("jumper(.., 2), a seventh", Edges::crowded, x -> x.jumper(0, 0, 2), Due.BEYOND);
    }

    // ---- promise 3

    /** "Of a JUMPER": 0 .. 4 of five; else "BEYOND". */
    private static void p03_jumperIsOneThatThereIs() {
        EDGES.unchanged("jumperIs(0, 0)", Edges::busy, x -> x.jumperIs(0, 0), 0);
        EDGES.unchanged("jumperIs(4, 0)", Edges::busy, x -> x.jumperIs(4, 0), 5);
        EDGES.outside("jumperIs, jumper", Edges::busy, (x, v) -> x.jumperIs(v, 0), 0, 4);
        EDGES.beyond("jumperIs, jumper of six", Edges::crowded, (x, v) -> x.jumperIs(v, 0), 6);
    }

    /** "0 KIND .. 5 what a beat COSTS": else "BEYOND". */
    private static void p03_whatIs0To5() {
        EDGES.unchanged("jumperIs(4, 5)", Edges::busy, x -> x.jumperIs(4, 5), 2);
        EDGES.outside("jumperIs, what", Edges::busy, (x, v) -> x.jumperIs(4, v), 0, 5);
    }

    /** "5 what a beat COSTS him now": held within 0 .. 20, as the TEXT gives it. */
    private static void p03_costsAreHeld() {
        RopeTreaty x = Edges.busy();
        x.text(0);
        Due.text(x, 0, "c*7-b*7+p*5-2");
        DUE.is("28 - 14 + 15 - 2", x.jumperIs(1, 5), 20);
        Due.text(x, 0, "c-5");
        DUE.is("4 - 5", x.jumperIs(1, 5), 0);
        Due.text(x, 0, "20");
        DUE.is("20", x.jumperIs(1, 5), 20);
        Due.text(x, 0, "21");
        DUE.is("21", x.jumperIs(1, 5), 20);
    }

    // ---- promise 4

    /** "A JUMPER": else "BEYOND". */
    private static void p04_jumperIsOneThatThereIs() {
        EDGES.outside("become, jumper", Edges::busy, (x, v) -> x.become(v, 11), 0, 4);
    }

    /** "a KIND, with m (km)": 0 .. 69, else "BEYOND". */
    private static void p04_kmIs0To69() {
        RopeTreaty x = Edges.busy();
        DUE.is("become(4, 69)", x.become(4, 69), 5);
        DUE.is("become(4, 0)", x.become(4, 0), 6);
        DUE.is("KIND", x.jumperIs(4, 0), 0);
        DUE.is("m", x.jumperIs(4, 1), 0);
        EDGES.outside("become, km", Edges::busy, (y, v) -> y.become(4, v), 0, 69);
    }

    /** "becomes one of a KIND, with m": BREATH, SIDE and IN stay. */
    private static void p04_onlyKindAndMChange() {
        RopeTreaty x = Edges.busy();
        x.become(4, 12);
        x.become(4, 57);
        EDGES.alike("become and back", x, Edges.busy(), 0);
    }

    // ---- promise 5

    /** "A JUMPER": else "BEYOND". */
    private static void p05_jumperIsOneThatThereIs() {
        EDGES.outside("as, jumper", Edges::busy, (x, v) -> x.as(v, 0), 0, 4);
    }

    /** "one of a KIND": 0 .. 6, else "BEYOND". */
    private static void p05_kindIs0To6() {
        EDGES.unchanged("as(4, 0)", Edges::busy, x -> x.as(4, 0), 7);
        EDGES.refused("as(4, 6)", Edges::busy, x -> x.as(4, 6), Due.KIND);
        EDGES.outside("as, kind", Edges::busy, (x, v) -> x.as(4, v), 0, 6);
    }

    /** "BEYOND. KIND: ..": in this order, of one who is a JUMPER only. */
    private static void p05_beyondIsAskedAheadOfKind() {
        EDGES.refused("as(5, 1)", Edges::busy, x -> x.as(5, 1), Due.BEYOND);
        EDGES.refused("as(0, 7)", Edges::busy, x -> x.as(0, 7), Due.BEYOND);
    }

    /** "KIND: he isn't of that KIND, nor of one under it": every KIND as every KIND. */
    private static void p05_kindIsHisOwnOrOneAbove() {
        String[] own = {"0", "01", "02", "03", "014", "025", "06"};
        for (int kind = 0; kind <= 6; kind++) {
            RopeTreaty x = new RopeTreaty();
            x.jumper(10 * kind + 8, 0, 0);
            for (int asked = 0; asked <= 6; asked++) {
                int due = own[kind].indexOf('0' + asked) >= 0 ? 8 : Due.KIND;
                DUE.is("KIND " + kind + " as " + asked, x.as(0, asked), due);
            }
            DUE.is("told(5)", x.told(5), 7 - own[kind].length());
        }
    }

    /** "KIND: ..": one of a KIND above isn't of that under it. */
    private static void p05_kindChangesNothing() {
        EDGES.refused("a MASTER as BAILIFF", Edges::busy, x -> x.as(1, 4), Due.KIND);
        EDGES.refused("a CON as RUNNER", Edges::busy, x -> x.as(2, 5), Due.KIND);
        EDGES.refused("a RUNNER as MASTER", Edges::busy, x -> x.as(4, 1), Due.KIND);
    }

    /** "m": 0, the least, is answered, and 9. */
    private static void p05_mIs0To9() {
        RopeTreaty x = new RopeTreaty();
        x.jumper(40, 0, 0);
        x.jumper(59, 0, 0);
        DUE.is("m 0", x.as(0, 1), 0);
        DUE.is("m 9", x.as(1, 2), 9);
    }

    // ---- promise 6

    /** "A JUMPER": else "BEYOND". */
    private static void p06_jumperIsOneThatThereIs() {
        EDGES.outside("jump, jumper, in", Edges::busy, (x, v) -> x.jump(v, 1), 0, 4);
        EDGES.outside("jump, jumper, out", Edges::busy, (x, v) -> x.jump(v, 0), 0, 4);
    }

    /** "IN (1), or isn't (0)": else "BEYOND". */
    private static void p06_inIs0Or1() {
        EDGES.outside("jump, in", Edges::busy, (x, v) -> x.jump(2, v), 0, 1);
    }

    /** "what he was": one who is IN already stays so, one who isn't, too. */
    private static void p06_inAlready() {
        EDGES.unchanged("jump(4, 1)", Edges::busy, x -> x.jump(4, 1), 1);
        EDGES.unchanged("jump(2, 0)", Edges::busy, x -> x.jump(2, 0), 0);
    }

    /** "STATE: (1) the rope doesn't TURN": by the ARM of either. */
    private static void p06_stateIfTheRopeStands() {
        EDGES.refused("jump(2, 1)", Edges::still, x -> x.jump(2, 1), Due.STATE);
        RopeTreaty x = Edges.busy();
        x.spell(0, 0);
        DUE.is("by ARM 0", x.jump(2, 1), Due.STATE);
    }

    /** "STATE: (1) ..": for one who is IN already, too. */
    private static void p06_stateForOneWhoIsIn() {
        EDGES.refused("jump(4, 1)", Edges::still, x -> x.jump(4, 1), Due.STATE);
    }

    /** "STATE: (1)": to be IN no more (0) needs no rope that TURNS. */
    private static void p06_noStateToLeave() {
        RopeTreaty x = Edges.still();
        DUE.is("jump(4, 0)", x.jump(4, 0), 1);
        DUE.is("he isn't IN", x.jumperIs(4, 4), 0);
        DUE.is("jump(4, 0) again", x.jump(4, 0), 0);
        DUE.is("no ERROR", x.told(3), 0);
    }

    /** "BEYOND. STATE: ..": in this order. */
    private static void p06_beyondIsAskedAheadOfState() {
        EDGES.refused("jump(5, 1)", Edges::still, x -> x.jump(5, 1), Due.BEYOND);
        EDGES.refused("jump(-1, 1)", Edges::still, x -> x.jump(-1, 1), Due.BEYOND);
        EDGES.refused("jump(2, 2)", Edges::still, x -> x.jump(2, 2), Due.BEYOND);
    }

    // ---- promise 7

    /** "BREATH of a JUMPER": else "BEYOND". */
    private static void p07_jumperIsOneThatThereIs() {
        EDGES.outside("rest, jumper", Edges::busy, (x, v) -> x.rest(v, 9), 0, 4);
    }

    /** "BREATH (0 .. 99)", else "BEYOND". */
    private static void p07_breathIs0To99() {
        RopeTreaty x = Edges.busy();
        DUE.is("rest(3, 99)", x.rest(3, 99), 76);
        DUE.is("rest(3, 0)", x.rest(3, 0), 99);
        DUE.is("BREATH", x.jumperIs(3, 2), 0);
        EDGES.outside("rest, breath", Edges::busy, (y, v) -> y.rest(3, v), 0, 99);
    }

    // ---- promise 8

    /** "one who turns (0, 1)": else "BEYOND". */
    private static void p08_turnerIs0Or1() {
        EDGES.outside("spell, turner", Edges::busy, (x, v) -> x.spell(v, 9), 0, 1);
    }

    /** "ARMS (0 .. 99)", else "BEYOND". */
    private static void p08_armIs0To99() {
        RopeTreaty x = Edges.busy();
        DUE.is("spell(0, 99)", x.spell(0, 99), 93);
        DUE.is("spell(0, 0)", x.spell(0, 0), 99);
        DUE.is("spell(1, 0)", x.spell(1, 0), 70);
        DUE.is("spell(1, 99)", x.spell(1, 99), 0);
        DUE.is("ARM 0", x.count(5), 0);
        DUE.is("ARM 1", x.count(6), 99);
        EDGES.outside("spell, arm", Edges::busy, (y, v) -> y.spell(1, v), 0, 99);
        EDGES.outside("spell, arm of 0", Edges::busy, (y, v) -> y.spell(0, v), 0, 99);
    }

    // ---- promise 9

    /** "THE BAR (0 .. 99)", else "BEYOND". */
    private static void p09_barIs0To99() {
        RopeTreaty x = Edges.busy();
        DUE.is("bar(99)", x.bar(99), 21);
        DUE.is("bar(0)", x.bar(0), 99);
        DUE.is("count(7)", x.count(7), 0);
        EDGES.outside("bar", Edges::busy, (y, v) -> y.bar(v), 0, 99);
    }

    // ---- promise 10

    /** "a JUMPER": else "BEYOND". */
    private static void p10_jumperIsOneThatThereIs() {
        EDGES.outside("liking, jumper", Edges::busy, (x, v) -> x.liking(v, 3), 0, 4);
    }

    /** "a TREATY" (0 .. 63): else "BEYOND". */
    private static void p10_treatyIs0To63() {
        EDGES.unchanged("liking(3, 0)", Edges::busy, x -> x.liking(3, 0), 40);
        EDGES.unchanged("liking(3, 63)", Edges::busy, x -> x.liking(3, 63), 43);
        EDGES.outside("liking, treaty", Edges::busy, (x, v) -> x.liking(3, v), 0, 63);
    }

    /** "held within 0 .. 99": what he LIKES less, and more. */
    private static void p10_likingIsHeld() {
        RopeTreaty x = new RopeTreaty();
        x.jumper(30, 0, 0);
        int[][] due = {{58, 97}, {59, 99}, {60, 96}, {62, 99}, {63, 99}};
        Due.text(x, 1, "l+t-4");
        for (int[] d : due) {
            DUE.is("l+t-4 of " + d[0], x.liking(0, d[0]), d[1]);
        }
        Due.text(x, 1, "l-t");
        DUE.is("l-t of 40", x.liking(0, 40), 0);
        DUE.is("l-t of 41", x.liking(0, 41), 0);
        DUE.is("l-t of 39", x.liking(0, 39), 5);
        DUE.is("l-t of 63", x.liking(0, 63), 0);
    }

    // ---- promise 11

    /** "A JUMPER": else "BEYOND". */
    private static void p11_jumperIsOneThatThereIs() {
        EDGES.outside("talk, jumper", Edges::busy, (x, v) -> x.talk(v, 45), 0, 4);
    }

    /** "a TREATY" (0 .. 63): else "BEYOND". */
    private static void p11_treatyIs0To63() {
        RopeTreaty x = Edges.busy();
        x.bar(0);
        DUE.is("talk(0, 63)", x.talk(0, 63), 1);
        DUE.is("talk(0, 0)", x.talk(0, 0), 1);
        DUE.is("THE TREATY", x.count(3), 0);
        EDGES.outside("talk, treaty", Edges::busy, (y, v) -> y.talk(0, v), 0, 63);
    }

    /** "1, if it IS TAKEN (it is THE TREATY then)": that changes nothing else, and he may be any who is IN. */
    private static void p11_taken() {
        for (int j : new int[] {0, 1, 4}) {
            RopeTreaty x = Edges.busy();
            DUE.is("talk(" + j + ", 45)", x.talk(j, 45), 1);
            DUE.is("THE TREATY", x.count(3), 45);
            DUE.is("talk(" + j + ", 44)", x.talk(j, 44), 1);
            EDGES.alike("45 and back to 44", x, Edges.busy(), 0);
        }
    }

    /** "0": a TREATY that is not TAKEN changes nothing. */
    private static void p11_notTaken() {
        EDGES.unchanged("talk(0, 0)", Edges::busy, x -> x.talk(0, 0), 0);
    }

    /** "STATE: he isn't IN". */
    private static void p11_stateIfHeIsNotIn() {
        EDGES.refused("talk(3, 45)", Edges::busy, x -> x.talk(3, 45), Due.STATE);
        EDGES.refused("talk(3, 45), nobody IN", Edges::lonely, x -> x.talk(3, 45), Due.STATE);
    }

    /** "STATE: .. the rope doesn't TURN". */
    private static void p11_stateIfTheRopeStands() {
        EDGES.refused("talk(0, 45)", Edges::still, x -> x.talk(0, 45), Due.STATE);
    }

    /** "STATE: .. the WORD is PEPPER": not at the words before and behind it. */
    private static void p11_stateAtPepper() {
        EDGES.refused("talk(0, 45)", Edges::pepper, x -> x.talk(0, 45), Due.STATE);
        for (int beats = 0; beats < 8; beats++) {
            RopeTreaty x = Due.beaten(beats);
            x.jumper(0, 50, 0);
            x.jump(0, 1);
            x.bar(0);
            DUE.is("talk at BEAT " + beats, x.talk(0, 5), beats % 4 == 3 ? Due.STATE : 1);
        }
    }

    /** "BEYOND. STATE: ..": in this order. */
    private static void p11_beyondIsAskedAheadOfState() {
        EDGES.refused("talk(3, 64)", Edges::busy, x -> x.talk(3, 64), Due.BEYOND);
        EDGES.refused("talk(5, 45)", Edges::still, x -> x.talk(5, 45), Due.BEYOND);
        EDGES.refused("talk(0, -1)", Edges::pepper, x -> x.talk(0, -1), Due.BEYOND);
    }

    /** "STATE": also of a TREATY that would not be TAKEN. */
    private static void p11_stateIsAskedAheadOfTaking() {
        EDGES.refused("talk(0, 0)", Edges::still, x -> x.talk(0, 0), Due.STATE);
        EDGES.refused("talk(3, 0)", Edges::busy, x -> x.talk(3, 0), Due.STATE);
    }
}
