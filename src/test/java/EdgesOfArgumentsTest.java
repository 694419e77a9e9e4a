/** Of each argument the last value that is taken and the first that is refused, on each side. */
public final class EdgesOfArgumentsTest {
    private static final int NONE = -1001, BAD = -1002;

    private interface With {
        long of(StringPuppets x, int v);
    }

    public static void main(String[] args) {
        aPuppet();
        aLimb();
        moves();
        ofALimb();
        lists();
        twoLimbs();
        holeAndDance();
        seen();
        note();
        mark();
        whatFits();
        slackAndNights();
        whatThereIs();
        noLimbs();
        sevenLimbs();
        Due.finish();
    }

    private static void taken(String what, Twins.State state, With call, int v, long answer) {
        StringPuppets x = state.make();
        int[] before = {x.status(0), x.status(1), x.status(2)};
        Due.is(what + " with " + v, call.of(x, v), answer);
        for (int k = 0; k < 3; k++) {
            Due.is(what + " with " + v + " is not refused", x.status(k), before[k]);
        }
    }

    private static void bad(String what, Twins.State state, With call, int v, long answer) {
        Twins.refused(what + " with " + v, state, x -> call.of(x, v), answer, Twins.BAD);
    }

    private static void range(String what, Twins.State state, long bad, int least, int most, With call,
            long atLeast, long atMost) {
        bad(what, state, call, Integer.MIN_VALUE, bad);
        bad(what, state, call, least - 1, bad);
        taken(what, state, call, least, atLeast);
        taken(what, state, call, most, atMost);
        bad(what, state, call, most + 1, bad);
        bad(what, state, call, Integer.MAX_VALUE, bad);
    }

    private static void range(String what, int least, int most, With call, long atLeast, long atMost) {
        range(what, Made::hung, BAD, least, most, call, atLeast, atMost);
    }

    private static void aPuppet() {
        range("2: puppet(LIFT 0 .. 40)", 0, 40, (x, v) -> x.puppet(v), 3, 3);
        range("4: type(0 .. 127)", 0, 127, (x, v) -> x.type(v), 25, 25);
    }

    private static void aLimb() {
        range("3: limb(KIND 0 .. 5)", 0, 5, (x, v) -> x.limb(v, 0, 1, 1, 0), 3, 3);
        range("3: limb(STRING 0 .. 5)", 0, 5, (x, v) -> x.limb(0, v, 1, 1, 0), 3, 3);
        range("3: limb(WEIGHT 1 .. 9)", 1, 9, (x, v) -> x.limb(0, 0, v, 1, 0), 3, 3);
        range("3: limb(LENGTH 1 .. 20)", 1, 20, (x, v) -> x.limb(0, 0, 1, v, 0), 3, 3);
        range("3: limb(HOLE 0 .. 8)", 0, 8, (x, v) -> x.limb(0, 0, 1, 1, v), 3, 3);
    }

    private static void moves() {
        range("7: moves(0 .. 4)", 0, 4, (x, v) -> x.moves(v), 1, 1);
        range("8: ties(a LIMB)", () -> Made.torn(3), BAD, 0, 2, (x, v) -> x.ties(v), 99, 99);
        range("9: hangs(a LIMB)", 0, 2, (x, v) -> x.hangs(v, 5), 4, 8);
        range("9: hangs(HOLE 0 .. 8)", 0, 8, (x, v) -> x.hangs(1, v), 2, 2);
    }

    private static void ofALimb() {
        range("11: of(a LIMB)", 0, 2, (x, v) -> x.of(v, 0), 0, 4);
        range("11: of(what 0 .. 7)", 0, 7, (x, v) -> x.of(2, v), 4, 9);
        range("13: safe(a LIMB)", 0, 2, (x, v) -> x.safe(v), 0, 9);
    }

    /** A list has no last number to be asked for: beyond its end it is -5. */
    private static void atLeastMinusOne(String what, With call, long atLeast) {
        bad(what, Made::hung, call, Integer.MIN_VALUE, -10);
        bad(what, Made::hung, call, -2, -10);
        taken(what, Made::hung, call, -1, atLeast);
        taken(what, Made::hung, call, Integer.MAX_VALUE, -5);
    }

    private static void lists() {
        atLeastMinusOne("12: touch(k)", (x, v) -> x.touch(v), 0);
        atLeastMinusOne("14: few(k)", (x, v) -> x.few(1, 13, v), 1);
        atLeastMinusOne("31: hands(k)", (x, v) -> x.hands(2, 1, v), 1);
        range("14: few(a LIMB)", Made::hung, -10, 0, 2, (x, v) -> x.few(v, -20, -1), 0, -6);
        range("14: few(-40 .. 60)", Made::hung, -10, -40, 60, (x, v) -> x.few(1, v, -1), -6, -6);
    }

    private static void twoLimbs() {
        range("15: both(a LIMB)", 0, 2, (x, v) -> x.both(v, -20, 1, 10), 0, NONE);
        range("15: both(another LIMB)", 0, 2, (x, v) -> x.both(1, 10, v, -20), 0, NONE);
        range("15: both(x -40 .. 60)", -40, 60, (x, v) -> x.both(0, v, 1, 10), NONE, NONE);
        range("15: both(y -40 .. 60)", -40, 60, (x, v) -> x.both(1, 10, 0, v), NONE, NONE);
        range("31: hands(a LIMB)", Made::hung, -10, 0, 2, (x, v) -> x.hands(v, 1, -1), 1, 1);
        range("31: hands(another LIMB)", Made::hung, -10, 0, 2, (x, v) -> x.hands(1, v, -1), 1, 1);
        Twins.refused("15: alike i, j", Made::hung, x -> x.both(1, 10, 1, 10), BAD, Twins.BAD);
        Twins.refused("31: alike a, b", Made::hung, x -> x.hands(1, 1, -1), -10, Twins.BAD);
    }

    private static void holeAndDance() {
        range("16: hole(a LIMB)", 0, 2, (x, v) -> x.hole(v, 0, 0), 0, 0);
        range("16: hole(-40 .. 60)", -40, 60, (x, v) -> x.hole(1, v, 1), 50, 50);
        range("16: hole(what 0, 1)", 0, 1, (x, v) -> x.hole(1, 7, v), 0, 3);
        range("17: beat(0 .. 7)", 0, 7, (x, v) -> x.beat(v, 2, 0), 0, 4);
        range("17: beat(MOVE 0 .. 4)", 0, 4, (x, v) -> x.beat(1, v, 0), 1, 1);
        range("17: beat(HIGH -40 .. 60)", -40, 60, (x, v) -> x.beat(1, 2, v), 1, 1);
        range("18: dance(0 .. 6)", 0, 6, (x, v) -> x.dance(v), 1, 1);
    }

    private static void seen() {
        range("21: seen(a LIMB)", 0, 2, (x, v) -> x.seen(v, 1, 0, 0), 2, 2);
        range("21: seen(LENGTH 1 .. 20)", 1, 20, (x, v) -> x.seen(0, v, 0, 0), 2, 2);
        range("21: seen(g 0 .. 60)", 0, 60, (x, v) -> x.seen(0, 1, v, 0), 2, 2);
        range("21: seen(x -40 .. 60)", -40, 60, (x, v) -> x.seen(0, 1, 0, v), 2, 2);
    }

    private static void note() {
        range("24: note(a LIMB)", 0, 2, (x, v) -> x.note(v, 1, 1, 0, 0), 2, 2);
        range("24: note(LENGTH 1 .. 20)", 1, 20, (x, v) -> x.note(0, v, 1, 0, 0), 2, 2);
        range("24: note(WEIGHT 1 .. 9)", 1, 9, (x, v) -> x.note(0, 1, v, 0, 0), 2, 2);
        range("24: note(WORN 0 .. 99)", 0, 99, (x, v) -> x.note(0, 1, 1, v, 0), 2, 2);
        range("24: note(x 0 .. 60)", 0, 60, (x, v) -> x.note(0, 1, 1, 0, v), 2, 2);
    }

    private static void mark() {
        range("25: mark(a LIMB)", 0, 2, (x, v) -> x.mark(v, 0, 0, 0), 2, 2);
        range("25: mark(h -40 .. 60)", -40, 60, (x, v) -> x.mark(0, v, 0, 0), 2, 2);
        range("25: mark(t 0 .. 99)", 0, 99, (x, v) -> x.mark(0, 0, v, 0), 2, 2);
        range("25: mark(x -40 .. 60)", -40, 60, (x, v) -> x.mark(0, 0, 0, v), 2, 2);
    }

    private static void whatFits() {
        range("22: heavy(a LIMB)", 0, 2, (x, v) -> x.heavy(v, 0), 9, 9);
        range("22: heavy(what 0 .. 2)", 0, 2, (x, v) -> x.heavy(1, v), 3, 5);
        range("23: tell(a LIMB)", 0, 2, (x, v) -> x.tell(v), 1, 1);
        range("26: forget(0 .. 2)", 0, 2, (x, v) -> x.forget(v), 1, 1);
        range("27: is(a LIMB)", 0, 2, (x, v) -> x.is(v), 63, 63);
        range("28: look(a LIMB)", 0, 2, (x, v) -> x.look(v), 302, 302);
        range("29: kinds(a LIMB)", 0, 2, (x, v) -> x.kinds(v), 63, 4 + 16);
        range("30: ask(a LIMB)", 0, 2, (x, v) -> x.ask(v), 11, 1);
    }

    private static void slackAndNights() {
        range("32: slack(n 0 .. 6)", 0, 6, (x, v) -> x.slack(v, 3), 1, 1);
        range("32: slack(c 0 .. 10)", 0, 10, (x, v) -> x.slack(1, v), 1, 1);
        range("33: nights(SEED 0 .. 999999)", 0, 999999, (x, v) -> x.nights(v, 0), 1, 1);
        range("33: nights(n 0 .. 60)", 0, 60, (x, v) -> x.nights(0, v), 1, 3);
    }

    private static void whatThereIs() {
        range("34: part(0, 1)", 0, 1, (x, v) -> x.part(v), 7, 10);
        range("35: image(0, 1)", 0, 1, (x, v) -> x.image(v), 1, 1);
        range("36: from(0, 1)", 0, 1, (x, v) -> x.from(v), 1, 1);
        range("37: status(0 .. 2)", Made::hung, -1, 0, 2, (x, v) -> x.status(v), 1, 0);
        range("38: count(0 .. 10)", 0, 10, (x, v) -> x.count(v), 3, 24);
    }

    /** Every call that takes a limb, with that limb; the rest of what it is told is as it should be. */
    private static final With[] OF_A_LIMB = {
        (x, v) -> x.ties(v), (x, v) -> x.hangs(v, 0), (x, v) -> x.of(v, 0), (x, v) -> x.safe(v),
        (x, v) -> x.hole(v, 0, 0), (x, v) -> x.both(v, 0, 1, 0), (x, v) -> x.both(1, 0, v, 0),
        (x, v) -> x.seen(v, 1, 0, 0), (x, v) -> x.heavy(v, 0), (x, v) -> x.tell(v), (x, v) -> x.note(v, 1, 1, 0, 0),
        (x, v) -> x.mark(v, 0, 0, 0), (x, v) -> x.is(v), (x, v) -> x.look(v), (x, v) -> x.kinds(v), (x, v) -> x.ask(v)};
    private static final With[] OF_A_LIMB_IN_LISTS = {
        (x, v) -> x.few(v, 0, -1), (x, v) -> x.hands(v, 1, -1), (x, v) -> x.hands(1, v, -1)};

    private static void noLimbs() {
        for (int k = 0; k < OF_A_LIMB.length; k++) {
            bad("1: no LIMBS, call " + k, StringPuppets::new, OF_A_LIMB[k], 0, BAD);
            bad("2: no LIMBS any more, call " + k, EdgesOfArgumentsTest::taughtAnew, OF_A_LIMB[k], 0, BAD);
        }
        for (int k = 0; k < OF_A_LIMB_IN_LISTS.length; k++) {
            bad("1: no LIMBS, list " + k, StringPuppets::new, OF_A_LIMB_IN_LISTS[k], 0, -10);
            bad("2: no LIMBS any more, list " + k, EdgesOfArgumentsTest::taughtAnew, OF_A_LIMB_IN_LISTS[k], 0, -10);
        }
    }

    private static StringPuppets taughtAnew() {
        StringPuppets x = Made.hung();
        x.puppet(20);
        return x;
    }

    /** The last of seven is taken by each of these calls that is not FULL then; there never is an eighth. */
    private static void sevenLimbs() {
        for (int k = 0; k < OF_A_LIMB.length; k++) {
            bad("3: LIMBS 0 .. 6, call " + k, Made::full, OF_A_LIMB[k], 7, BAD);
            StringPuppets x = Made.torn(7);
            OF_A_LIMB[k].of(x, 6);
            Due.is("3: LIMB 6 is there, call " + k, x.status(0), 0);
        }
        for (int k = 0; k < OF_A_LIMB_IN_LISTS.length; k++) {
            bad("3: LIMBS 0 .. 6, list " + k, Made::full, OF_A_LIMB_IN_LISTS[k], 7, -10);
            StringPuppets x = Made.torn(7);
            OF_A_LIMB_IN_LISTS[k].of(x, 6);
            Due.is("3: LIMB 6 is there, list " + k, x.status(0), 0);
        }
    }
}
