/** Which refusal comes first, that refused calls change nothing but STATUS, and that looks change nothing at all. */
public final class RefusalsTest {
    private static final int NONE = -1001, BAD = -1002, NO = -1003, FULL = -1004;

    public static void main(String[] args) {
        no();
        full();
        badAheadOfFull();
        badAheadOfNo();
        badAheadOfNoneAndNotSoMany();
        noRefusals();
        looksWhenHung();
        looksWhenFull();
        looksWithoutLimbs();
        looksBehindLooks(Made::hung);
        looksBehindLooks(Made::full);
        looksBehindLooks(RefusalsTest::knee);
        slackChangesTheFractionAlone();
        statusCounts();
        Due.finish();
    }

    private static void no() {
        Twins.refused("8: not SNAPPED", Made::hung, x -> x.ties(1), NO, Twins.NO);
        Twins.refused("9: it is there", Made::hung, x -> x.hangs(1, 2), NO, Twins.NO);
        Twins.refused("9: it is there, SNAPPED", Made::hung, x -> x.hangs(0, 4), NO, Twins.NO);
        Twins.refused("10: none may be", StringPuppets::new, x -> x.undo(), NO, Twins.NO);
        Twins.refused("10: none behind a LIMB that comes", RefusalsTest::hungAndALimb, x -> x.undo(), NO, Twins.NO);
        Twins.refused("36: none was kept", StringPuppets::new, x -> x.from(0), NO, Twins.NO);
        Twins.refused("36: none was kept", StringPuppets::new, x -> x.from(1), NO, Twins.NO);
        Twins.refused("36: the first was not kept", () -> withImage(1), x -> x.from(0), NO, Twins.NO);
        Twins.refused("36: the second was not kept", () -> withImage(0), x -> x.from(1), NO, Twins.NO);
    }

    private static StringPuppets hungAndALimb() {
        StringPuppets x = Made.hung();
        x.limb(0, 0, 1, 1, 0);
        return x;
    }

    private static StringPuppets withImage(int i) {
        StringPuppets x = Made.torn(2);
        x.image(i);
        x.ties(0);
        return x;
    }

    private static void full() {
        Twins.refused("3: an eighth LIMB", Made::full, x -> x.limb(0, 0, 1, 1, 0), FULL, Twins.FULL);
        Twins.refused("4: a 151st byte", Made::full, x -> x.type(59), FULL, Twins.FULL);
        Twins.refused("21: a sixth SEEN", Made::full, x -> x.seen(0, 1, 0, 0), FULL, Twins.FULL);
        Twins.refused("24: a seventh NOTE", Made::full, x -> x.note(0, 1, 1, 0, 0), FULL, Twins.FULL);
        Twins.refused("25: a seventh MARK", Made::full, x -> x.mark(0, 0, 0, 0), FULL, Twins.FULL);
    }

    private static void bad(String what, Twins.Call call) {
        Twins.refused(what, Made::full, call, BAD, Twins.BAD);
    }

    private static void badAheadOfFull() {
        bad("3: KIND, though FULL", x -> x.limb(6, 0, 1, 1, 0));
        bad("3: STRING, though FULL", x -> x.limb(0, 6, 1, 1, 0));
        bad("3: WEIGHT, though FULL", x -> x.limb(0, 0, 0, 1, 0));
        bad("3: LENGTH, though FULL", x -> x.limb(0, 0, 1, 21, 0));
        bad("3: HOLE, though FULL", x -> x.limb(0, 0, 1, 1, 9));
        bad("4: 128, though FULL", x -> x.type(128));
        bad("4: -1, though FULL", x -> x.type(-1));
        bad("21: no such LIMB, though FULL", x -> x.seen(7, 1, 0, 0));
        bad("21: LENGTH, though FULL", x -> x.seen(0, 0, 0, 0));
        bad("21: g, though FULL", x -> x.seen(0, 1, 61, 0));
        bad("21: x, though FULL", x -> x.seen(0, 1, 0, -41));
        bad("24: no such LIMB, though FULL", x -> x.note(7, 1, 1, 0, 0));
        bad("24: LENGTH, though FULL", x -> x.note(0, 21, 1, 0, 0));
        bad("24: WEIGHT, though FULL", x -> x.note(0, 1, 10, 0, 0));
        bad("24: WORN, though FULL", x -> x.note(0, 1, 1, 100, 0));
        bad("24: x, though FULL", x -> x.note(0, 1, 1, 0, 61));
        bad("25: no such LIMB, though FULL", x -> x.mark(7, 0, 0, 0));
        bad("25: h, though FULL", x -> x.mark(0, 61, 0, 0));
        bad("25: t, though FULL", x -> x.mark(0, 0, 100, 0));
        bad("25: x, though FULL", x -> x.mark(0, 0, 0, 61));
    }

    private static void badAheadOfNo() {
        Twins.refused("8: no such LIMB is none that is not SNAPPED", Made::hung, x -> x.ties(3), BAD, Twins.BAD);
        Twins.refused("9: no such LIMB", StringPuppets::new, x -> x.hangs(0, 0), BAD, Twins.BAD);
        Twins.refused("36: no such IMAGE is none that was not kept", StringPuppets::new, x -> x.from(2), BAD, Twins.BAD);
        Twins.refused("36: no such IMAGE is none that was not kept", StringPuppets::new, x -> x.from(-1), BAD, Twins.BAD);
    }

    private static void badAheadOfNoneAndNotSoMany() {
        Twins.refused("14: k, though there is none", Made::hung, x -> x.few(1, 60, -2), -10, Twins.BAD);
        Twins.refused("14: no such LIMB, k beyond", Made::hung, x -> x.few(3, 10, 99), -10, Twins.BAD);
        Twins.refused("14: x, k beyond", Made::hung, x -> x.few(1, 61, 99), -10, Twins.BAD);
        Twins.refused("31: alike, k beyond", Made::hung, x -> x.hands(1, 1, 99), -10, Twins.BAD);
        Twins.refused("31: no such LIMB, k beyond", Made::hung, x -> x.hands(3, 1, 99), -10, Twins.BAD);
        Twins.refused("15: x, though there is none", Made::hung, x -> x.both(0, 61, 1, 60), BAD, Twins.BAD);
        Twins.refused("22: what, though there is no WEIGHT", Made::full, x -> x.heavy(0, 3), BAD, Twins.BAD);
    }

    /** NONE, -5, -6, a FAULT and a DANCE without its LIMB are answers, not refusals. */
    private static void noRefusals() {
        Twins.unchanged("12: not so many", Made::hung, x -> x.touch(0), -5);
        Twins.unchanged("13: none", () -> Made.one(20, 0, 0, 1, 1), x -> x.safe(0), NONE);
        Twins.unchanged("14: none", Made::hung, x -> x.few(1, 60, 99), -6);
        Twins.unchanged("14: not so many", Made::hung, x -> x.few(1, 10, 0), -5);
        Twins.unchanged("15: none", Made::hung, x -> x.both(0, 60, 1, 60), NONE);
        Twins.unchanged("20: none", StringPuppets::new, x -> x.snaps(), NONE);
        Twins.unchanged("22: none", RefusalsTest::fitsNothing, x -> x.heavy(0, 1), NONE);
        Twins.unchanged("22: none", RefusalsTest::fitsNothing, x -> x.heavy(0, 2), NONE);
        Twins.unchanged("23: none", RefusalsTest::fitsNothing, x -> x.tell(0), NONE);
        Twins.unchanged("28: none", RefusalsTest::fitsNothing, x -> x.look(0), NONE);
        Twins.unchanged("30: none", RefusalsTest::fitsNothing, x -> x.ask(0), NONE);
        Twins.unchanged("31: not so many", Made::hung, x -> x.hands(0, 1, 99), -5);
        Twins.unchanged("6: a FAULT", () -> withText("puppet 20;move 4 4;tie 0;"), x -> x.read(), -10 - 23);
        Twins.unchanged("6: a FAULT, no text", StringPuppets::new, x -> x.read(), -10);
        Twins.unchanged("19: a DANCE of a LIMB not there", StringPuppets::new, x -> x.comesOut(), 0);
    }

    private static StringPuppets fitsNothing() {
        StringPuppets x = Made.hung();
        x.seen(0, 1, 0, 60);
        x.note(0, 1, 1, 0, 60);
        x.mark(0, 0, 0, 60);
        return x;
    }

    private static StringPuppets withText(String text) {
        StringPuppets x = Made.hung();
        Made.write(x, text);
        return x;
    }

    private static void hung(String what, Twins.Call call, long answer) {
        Twins.unchanged(what, Made::hung, call, answer);
    }

    private static void looksWhenHung() {
        hung("11: of", x -> x.of(1, 7), 10);
        hung("12: touch", x -> x.touch(-1), 0);
        hung("13: safe", x -> x.safe(1), 22);
        hung("14: few", x -> x.few(1, 22, -1), 4);
        hung("15: both", x -> x.both(0, -20, 1, 25), 5);
        hung("16: hole", x -> x.hole(1, 12, 1), 2);
        // up: 13, as told; down: 10, as told; then 10 each, not 0
        hung("19: comesOut", x -> x.comesOut(), 2);
        // limb 2, worn by 55, 5 a move: 95 behind the eighth
        hung("20: snaps", x -> x.snaps(), NONE);
        hung("22: heavy", x -> x.heavy(1, 1), 3);
        hung("23: tell", x -> x.tell(1), 1);
        hung("27: is", x -> x.is(1), 2 + 16);
        hung("28: look", x -> x.look(1), 101);
        hung("29: kinds", x -> x.kinds(2), 4 + 16);
        hung("30: ask", x -> x.ask(2), 1);
        hung("31: hands", x -> x.hands(2, 1, 0), 30);
        hung("33: nights", x -> x.nights(7, 60), 3);
        hung("34: part", x -> x.part(1), 10);
        hung("37: status", x -> x.status(1), 1);
        hung("38: count", x -> x.count(5), 99 + 33 + 55);
        hung("39: digest", x -> x.digest() - x.digest(), 0);
    }

    private static Twins.Call[] looksAt(int i, int j) {
        return new Twins.Call[] {
            x -> x.of(j, 7), x -> x.touch(-1), x -> x.safe(j), x -> x.few(j, 9, -1), x -> x.both(i, 9, j, 9),
            x -> x.hole(j, 60, 1), x -> x.comesOut(), x -> x.snaps(), x -> x.heavy(j, 0), x -> x.tell(j), x -> x.is(j),
            x -> x.look(j), x -> x.kinds(j), x -> x.ask(j), x -> x.hands(i, j, -1), x -> x.nights(999999, 60),
            x -> x.part(0), x -> x.status(0), x -> x.count(10), x -> x.digest()};
    }

    private static void looksWhenFull() {
        Twins.Call[] looks = looksAt(5, 6);
        for (int k = 0; k < looks.length; k++) {
            Twins.unchanged("look " + k, Made::full, looks[k], looks[k].on(Made.full()));
        }
    }

    /** A look answers the same whatever was asked just ahead of it. */
    private static void looksBehindLooks(Twins.State state) {
        for (Twins.Call[] looks : new Twins.Call[][] {looksAt(1, 0), looksAt(0, 1)}) {
            for (int behind = 0; behind < looks.length; behind++) {
                long due = looks[behind].on(state.make());
                for (int ahead = 0; ahead < looks.length; ahead++) {
                    StringPuppets x = state.make();
                    looks[ahead].on(x);
                    Due.is("look " + behind + " behind look " + ahead, looks[behind].on(x), due);
                }
            }
        }
    }

    /** A knee of weight 8 or 9, 1 or 0 high by the last length that tell tries, on silk or wire. */
    private static StringPuppets knee() {
        StringPuppets x = Made.bar(20);
        x.limb(3, 2, 8, 20, 4);
        x.limb(0, 0, 1, 1, 4);
        x.seen(0, 20, 29, 0);
        x.note(0, 9, 9, 0, 9);
        x.mark(0, -40, 0, -40);
        return x;
    }

    private static void looksWithoutLimbs() {
        Twins.unchanged("12: no pair", StringPuppets::new, x -> x.touch(-1), 0);
        Twins.unchanged("12: no first pair", StringPuppets::new, x -> x.touch(0), -5);
        Twins.unchanged("20: no STRING", StringPuppets::new, x -> x.snaps(), NONE);
        Twins.unchanged("33: no STRING", StringPuppets::new, x -> x.nights(5, 60), 0);
        Twins.unchanged("38: no LIMBS", StringPuppets::new, x -> x.count(0), 0);
    }

    private static void slackChangesTheFractionAlone() {
        StringPuppets x = Made.hung();
        StringPuppets same = Made.hung();
        x.slack(2, 5);
        // both done or both slack: it is 10 high either way
        Due.is("32: another FRACTION", x.part(0) * 100 + x.part(1), 102);
        x.slack(1, 3);
        Due.is("32: all as it was, the FRACTION being so again", x.digest(), same.digest());
        for (int k = 0; k < 8; k++) {
            Due.is("32: what may be undone", x.undo(), same.undo());
            Due.is("32: what may be undone", x.digest(), same.digest());
        }
    }

    /** Every refusal is counted once, and where its reason is. */
    private static void statusCounts() {
        StringPuppets x = new StringPuppets();
        for (int k = 1; k <= 40; k++) {
            Due.is("37: NO", x.undo(), NO);
            Due.is("37: NO one more", x.status(1), k);
            Due.is("37: BAD stays", x.status(0), k - 1);
            Due.is("37: another what", x.status(k % 2 == 0 ? 3 : -1), -1);
            Due.is("37: it counts as BAD", x.status(0), k);
            Due.is("37: FULL stays", x.status(2), 0);
        }
    }
}
