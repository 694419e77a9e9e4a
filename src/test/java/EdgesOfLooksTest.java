/** The edges of what is asked of a puppet: none, all, the first, the last, what is just reached and just not. */
public final class EdgesOfLooksTest {
    private static final int NONE = -1001;
    private static final int UP = 0, DOWN = 1, LEFT = 2, RIGHT = 3, STILL = 4;

    public static void main(String[] args) {
        touchNone();
        touchAll();
        touchNoneSnapped();
        touchNoneNotThere();
        safeBetween1And60();
        safeOfOneSnapped();
        fewNoMoves();
        fewFiveAtMost();
        fewAtTheBarsEnds();
        fewFirstRow();
        fewSnapsByTheWay();
        fewOfOneSnapped();
        fewAtTheTellingsEnds();
        bothFiveAtMost();
        bothSnapped();
        holeOfLikeOnesTheLeast();
        holeOfOneSnapped();
        comesOutNoneAndAll();
        comesOutEightAtMost();
        comesOutOneBehindTheOther();
        danceOfALimbNotThere();
        snapsFirstAndLastBeat();
        snapsNone();
        handsNoneRests();
        handsThatRest();
        handsOfOneSnapped();
        slackOfNoBeats();
        slackWithoutALimb();
        slackNeverAndAlways();
        slackOfSixBeats();
        slackInLowestTerms();
        nightsBySeeds();
        nightsAtTheEnds();
        Due.finish();
    }

    private static StringPuppets heads(int lift, int limbs) {
        StringPuppets x = Made.bar(lift);
        for (int k = 0; k < limbs; k++) {
            x.limb(0, 0, 1, 10, 4);
        }
        return x;
    }

    private static void touchNone() {
        StringPuppets x = heads(20, 0);
        Due.is("12: no LIMBS", x.touch(-1), 0);
        Due.is("12: no LIMBS", x.touch(0), -5);
        x = heads(20, 1);
        Due.is("12: one LIMB, none with itself", x.touch(-1), 0);
        x.limb(0, 0, 1, 11, 4);
        Due.is("12: 1 apart", x.touch(-1), 0);
    }

    private static void touchAll() {
        StringPuppets x = heads(20, 7);
        Due.is("12: each pair of seven", x.touch(-1), 21);
        int k = 0;
        for (int i = 0; i < 7; i++) {
            for (int j = i + 1; j < 7; j++) {
                Due.is("12: rising", x.touch(k), 10 * i + j);
                k++;
            }
        }
        Due.is("12: not so many", x.touch(21), -5);
    }

    private static void touchNoneSnapped() {
        StringPuppets x = Made.torn(2);
        Due.is("12: neither SNAPPED", x.touch(-1), 0);
        x.ties(1);
        Due.is("12: the first is", x.touch(-1), 0);
        x.ties(0);
        Due.is("12: neither is", x.touch(-1), 1);
        // an odd LIMB that would be at -20 and one SNAPPED: 0 - 16 - 4
        x = Made.bar(0);
        x.limb(0, 0, 1, 4, 8);
        x.limb(0, 0, 9, 4, 8);
        Made.move(x, 10, LEFT);
        Due.is("12: -20, not SNAPPED", x.of(0, 7), -20);
        Due.is("12: -20, SNAPPED", x.of(1, 7) * 10 + x.of(1, 6), -199);
        Due.is("12: these do not touch", x.touch(-1), 0);
    }

    private static void touchNoneNotThere() {
        StringPuppets x = heads(20, 7);
        x.puppet(20);
        x.limb(0, 0, 1, 10, 4);
        Due.is("12: none of a puppet that is no more", x.touch(-1), 0);
        x.puppet(20);
        x.limb(5, 0, 1, 3, 4);
        Due.is("12: one LIMB, as HIGH as THE BAR", x.of(0, 7), 20);
        Due.is("12: one LIMB, as HIGH as THE BAR", x.touch(-1), 0);
    }

    private static void safeBetween1And60() {
        StringPuppets x = Made.one(20, 0, 0, 1, 1);
        Made.move(x, 38, STILL);
        Due.is("13: 61 would be", x.safe(0), NONE);
        x.moves(STILL);
        Due.is("13: 60", x.safe(0), 60);
        x.moves(STILL);
        Due.is("13: 59", x.safe(0), 59);
        Made.move(x, 57, STILL);
        Due.is("13: 2", x.safe(0), 2);
        x.moves(STILL);
        Due.is("13: 1", x.safe(0), 1);
        x.moves(STILL);
        Due.is("13: 0: it is", x.safe(0), 0);
        x = Made.one(20, 0, 0, 9, 1);
        Due.is("13: 99 just so", x.safe(0), 11);
        x = Made.one(20, 0, 0, 8, 1);
        Due.is("13: 99 and more", x.safe(0), 13);
        Made.move(x, 4, LEFT);
        // worn by 40, 16 a MOVE
        Due.is("13: twice at -4", x.safe(0), 4);
    }

    private static void safeOfOneSnapped() {
        StringPuppets x = Made.torn(2);
        x.ties(1);
        Due.is("13: it is", x.safe(0), 0);
        Due.is("13: tied anew", x.safe(1), 11);
    }

    private static void row(String what, StringPuppets x, int i, int high, int... moves) {
        Due.is(what + ", how many", x.few(i, high, -1), moves.length);
        for (int k = 0; k < moves.length; k++) {
            Due.is(what + ", the " + k + "-th", x.few(i, high, k), moves[k]);
        }
        Due.is(what + ", not so many", x.few(i, high, moves.length), -5);
    }

    private static void none(String what, StringPuppets x, int i, int high) {
        for (int k : new int[] {-1, 0, 4, 5, Integer.MAX_VALUE}) {
            Due.is(what + ", k " + k, x.few(i, high, k), -6);
        }
    }

    private static void fewNoMoves() {
        row("14: it is there", heads(20, 1), 0, 10);
    }

    private static void fewFiveAtMost() {
        StringPuppets x = heads(20, 1);
        row("14: five up", x, 0, 25, 0, 0, 0, 0, 0);
        row("14: five down", x, 0, -5, 1, 1, 1, 1, 1);
        none("14: six up", x, 0, 28);
        none("14: six down", x, 0, -8);
    }

    private static void fewAtTheBarsEnds() {
        row("14: up to 40, down to 37", heads(39, 1), 0, 27, 0, 1);
        row("14: down to 0, up to 3", heads(1, 1), 0, -7, 1, 0);
        none("14: no higher than 40", heads(40, 1), 0, 33);
        none("14: no lower than 0", heads(0, 1), 0, -13);
        StringPuppets x = Made.bar(40);
        x.limb(0, 0, 1, 10, 5);
        row("14: right to 4", x, 0, 34, 3, 3, 3, 3);
        none("14: no further right", x, 0, 35);
        x = Made.bar(0);
        x.limb(0, 0, 1, 10, 5);
        row("14: left to -4", x, 0, -14, 2, 2, 2, 2);
        none("14: no further left", x, 0, -15);
        x = Made.bar(20);
        x.limb(0, 0, 1, 10, 5);
        Made.move(x, 4, RIGHT);
        row("14: 4 stays 4: from 14 to 18", x, 0, 18, 0, 0, 2, 2);
        row("14: from 4 left", x, 0, 13, 2);
    }

    private static void fewFirstRow() {
        StringPuppets x = Made.bar(20);
        x.limb(0, 0, 1, 10, 7);
        // from hole 7 a tilt is worth 3, as much as up or down
        row("14: up ahead of right", x, 0, 13, 0);
        row("14: down ahead of left", x, 0, 7, 1);
        row("14: up and up, ahead of all else", x, 0, 16, 0, 0);
        x = Made.bar(20);
        x.limb(4, 0, 1, 10, 7);
        row("14: a tail, 1 less behind an odd MOVE", x, 0, 9, 4);
        row("14: a tail, 3 more and 1 less", x, 0, 12, 0);
        row("14: a tail, not less behind an even MOVE", x, 0, 13, 0, 4);
    }

    private static void fewSnapsByTheWay() {
        StringPuppets x = Made.one(20, 0, 0, 9, 10);
        Made.move(x, 3, STILL);
        none("14: 27: not SNAPPED behind five", x, 0, -20);
        x.moves(STILL);
        row("14: 36: tilted at once it is, 63 more", x, 0, -20, 2, 2, 2, 2, 0);
        x.moves(STILL);
        row("14: 45: one MOVE may be another", x, 0, -20, 0, 2, 2, 2, 2);
        x.moves(STILL);
        row("14: 54: behind four", x, 0, -20, 2, 2, 2, 2);
        Made.move(x, 3, RIGHT);
        row("14: 81 at TILT 3: right makes it 99", x, 0, -20, 3);
        x.moves(STILL);
        row("14: 90: any MOVE snaps it", x, 0, -20, 0);
        none("14: it would be 13 if it held", x, 0, 13);
        // old gut comes to drop 1 more as it comes to be worn by 10
        x = Made.one(20, 0, 4, 5, 10);
        row("14: WORN as it comes", x, 0, 8, 0, 1);
        row("14: WORN by 10 behind four, at TILT -4", Made.one(20, 0, 4, 2, 10), 0, 9, 2, 2, 2, 2);
        none("14: WORN by 7 at most behind five", Made.one(20, 0, 4, 1, 10), 0, 9);
    }

    private static void fewOfOneSnapped() {
        StringPuppets x = Made.torn(1);
        row("14: one SNAPPED is -20 HIGH", x, 0, -20);
        none("14: and no other", x, 0, -19);
        none("14: and no other", x, 0, 10);
    }

    private static void fewAtTheTellingsEnds() {
        StringPuppets x = Made.bar(0);
        x.limb(0, 2, 4, 20, 8);
        x.limb(5, 0, 1, 1, 0);
        row("14: -40", x, 0, -40, 2, 2, 2, 2);
        row("14: -36", x, 0, -36, 2, 2, 2);
        none("14: 60", x, 1, 60);
        none("14: -40, of a wing", x, 1, -40);
    }

    private static StringPuppets ends(int lift) {
        StringPuppets x = Made.bar(lift);
        x.limb(0, 0, 1, 10, 0);
        x.limb(0, 0, 1, 10, 8);
        return x;
    }

    private static void bothFiveAtMost() {
        StringPuppets x = ends(20);
        Due.is("15: both are there", x.both(0, 10, 1, 10), 0);
        Due.is("15: only the first", x.both(0, 10, 1, 9), NONE);
        Due.is("15: only the second", x.both(0, 9, 1, 10), NONE);
        Due.is("15: one up", x.both(0, 13, 1, 13), 1);
        Due.is("15: three up, two left", x.both(0, 27, 1, 11), 5);
        Due.is("15: three up, three left", x.both(0, 31, 1, 7), NONE);
        Due.is("15: the other way about", x.both(1, 11, 0, 27), 5);
        Due.is("15: each may be, but not both", x.both(0, 14, 1, 14), NONE);
        Due.is("15: -40 and 60", x.both(0, -40, 1, 60), NONE);
    }

    private static void bothSnapped() {
        StringPuppets x = Made.torn(2);
        Due.is("15: both SNAPPED", x.both(0, -20, 1, -20), 0);
        x.ties(0);
        Made.move(x, 3, STILL);
        Due.is("15: one is, the other not behind five", x.both(0, -20, 1, -20), NONE);
        x.moves(STILL);
        Due.is("15: one is, the other behind five", x.both(0, -20, 1, -20), 5);
        Due.is("15: the other still hangs", x.both(1, -20, 0, 13), 1);
        Due.is("15: none ties itself", x.both(0, 10, 1, 10), NONE);
    }

    private static void hole(String what, StringPuppets x, int high, int which, int far) {
        Due.is(what + ", which", x.hole(0, high, 0), which);
        Due.is(what + ", how far", x.hole(0, high, 1), far);
    }

    private static void holeOfLikeOnesTheLeast() {
        StringPuppets x = heads(20, 1);
        hole("16: all alike", x, 10, 0, 0);
        hole("16: all alike", x, 60, 0, 50);
        Made.move(x, 2, RIGHT);
        // 2, 4, 6, 8, 10, 12, 14, 16, 18
        for (int which = 0; which <= 8; which++) {
            hole("16: just so", x, 2 + 2 * which, which, 0);
        }
        hole("16: between two", x, 17, 7, 1);
        hole("16: below all", x, -40, 0, 42);
        hole("16: above all", x, 60, 8, 42);
        Made.move(x, 4, LEFT);
        // 18, 16, .. 2
        hole("16: between two", x, 17, 0, 1);
        hole("16: below all", x, -40, 8, 42);
        x = Made.one(20, 2, 0, 1, 10);
        Made.move(x, 4, RIGHT);
        // a foot: 0 (-6), 0 (-2), 2, 6, 9, 9, ..
        hole("16: as HIGH as the first of like ones", x, 60, 4, 51);
        hole("16: 0 at least", x, -40, 0, 40);
        hole("16: between 2 and 6", x, 4, 2, 2);
        hole("16: nearer to 9 than to 6", x, 8, 4, 1);
        x = Made.one(20, 4, 0, 1, 10);
        Made.move(x, 1, RIGHT);
        hole("16: a tail, behind an odd MOVE now", x, 9, 4, 0);
    }

    private static void holeOfOneSnapped() {
        StringPuppets x = Made.torn(1);
        Made.move(x, 3, RIGHT);
        hole("16: one SNAPPED", x, 60, 0, 80);
        hole("16: one SNAPPED", x, -20, 0, 0);
        hole("16: one SNAPPED", x, -40, 0, 20);
    }

    private static void comesOutNoneAndAll() {
        StringPuppets x = Made.one(20, 0, 0, 1, 20);
        Due.is("19: all eight, as at first", x.comesOut(), 8);
        x.moves(UP);
        Due.is("19: none", x.comesOut(), 0);
        for (int t = 0; t < 8; t++) {
            x.beat(t, STILL, 3);
            Due.is("19: one more", x.comesOut(), t + 1);
        }
    }

    private static void comesOutEightAtMost() {
        StringPuppets x = Made.bar(0);
        x.limb(2, 0, 1, 20, 4);
        for (int t = 0; t < 8; t++) {
            x.beat(t, t % 5, 0);
        }
        Due.is("19: a foot, 0 HIGH whatever is done: 8 BEATS", x.comesOut(), 8);
    }

    private static void comesOutOneBehindTheOther() {
        StringPuppets x = Made.one(38, 4, 0, 1, 10);
        // up: 40, odd: 29; down: 37, even: 27; down: 34, odd: 23; still, even: 24; up: 37, odd: 26; up: 40, even: 30
        int[] moves = {UP, DOWN, DOWN, STILL, UP, UP};
        int[] highs = {29, 27, 23, 24, 26, 30};
        for (int t = 0; t < moves.length; t++) {
            x.beat(t, moves[t], highs[t]);
        }
        x.beat(6, LEFT, 29);
        x.beat(7, RIGHT, 30);
        Due.is("19: all eight", x.comesOut(), 8);
        x.beat(7, RIGHT, 29);
        Due.is("19: but the last", x.comesOut(), 7);
        x.beat(0, STILL, 29);
        // from 38: 38, 35, 32, 32, 35, 38, 38, 38, each time 2 lower than told, or 1
        Due.is("19: another first MOVE", x.comesOut(), 0);
    }

    private static void danceOfALimbNotThere() {
        StringPuppets x = Made.one(20, 0, 0, 9, 20);
        Due.is("18: of the first", x.dance(1), 0);
        Due.is("19: a LIMB not there: 0 come out", x.comesOut(), 0);
        x.limb(0, 0, 9, 20, 4);
        Due.is("19: there it is", x.comesOut(), 8);
        Due.is("18: of the second", x.dance(6), 1);
        Due.is("19: a LIMB not there: 0 come out", x.comesOut(), 0);
        Made.move(x, 5, STILL);
        Due.is("20: STRINGS snap, whoever dances", x.snaps(), 5);
        x.puppet(20);
        for (int t = 0; t < 8; t++) {
            x.beat(t, STILL, t < 4 ? 0 : 20);
        }
        Due.is("19: no LIMB any more, neither 0 nor as HIGH as THE BAR", x.comesOut(), 0);
        Due.is("32: nor by any chance", x.slack(1, 5) * 100 + x.part(0) * 10 + x.part(1), 101);
        Due.is("32: nor by any chance", x.slack(6, 5) * 100 + x.part(0) * 10 + x.part(1), 101);
        x.limb(0, 0, 9, 20, 4);
        Due.is("19: half of them", x.comesOut(), 4);
    }

    private static void snapsFirstAndLastBeat() {
        StringPuppets x = Made.one(20, 0, 0, 9, 10);
        Made.move(x, 2, STILL);
        Due.is("20: behind the ninth", x.snaps(), NONE);
        x.moves(STILL);
        Due.is("20: BEAT 7", x.snaps(), 7);
        Made.move(x, 7, STILL);
        Due.is("20: BEAT 0", x.snaps(), 0);
        x.moves(STILL);
        Due.is("20: none that is SNAPPED already", x.snaps(), NONE);
        x.limb(0, 0, 9, 10, 4);
        Made.move(x, 9, STILL);
        Due.is("20: another one, in BEAT 1", x.snaps(), 1);
        x.limb(0, 0, 9, 10, 4);
        Due.is("20: the first of two", x.snaps(), 1);
    }

    private static void snapsNone() {
        StringPuppets x = new StringPuppets();
        Due.is("20: no STRING", x.snaps(), NONE);
        x.limb(0, 0, 9, 10, 4);
        for (int t = 0; t < 8; t++) {
            x.beat(t, RIGHT, 0);
        }
        // 27, then 18 each: 45, 63, 81, 99
        Due.is("20: twice at TILT 4", x.snaps(), 6);
        x.beat(0, LEFT, 0);
        x.beat(6, LEFT, 0);
        x.beat(7, LEFT, 0);
        // TILT -1, 0, 1, 2, 3, 4, 3, 2: 81
        Due.is("20: but once at TILT 4", x.snaps(), NONE);
    }

    private static void handsNoneRests() {
        StringPuppets x = Made.bar(15);
        x.limb(2, 1, 4, 17, 8);
        x.limb(5, 3, 9, 14, 2);
        // a foot at 0 (-3), a wing at 5 (2): up calls for right, right for still, still for still, still for up
        Due.is("31: none rests", x.hands(0, 1, -1), 0);
        Due.is("31: none rests", x.hands(0, 1, 0), -5);
        Due.is("31: none rests, the other way about", x.hands(1, 0, -1), 0);
    }

    private static void handsThatRest() {
        StringPuppets x = Made.bar(38);
        x.limb(4, 1, 6, 19, 6);
        x.limb(0, 0, 8, 15, 6);
        x.moves(RIGHT);
        // up is 2 once, right 2 each: as much as it costs
        int[] pairs = {3, 4, 30, 33, 34, 40, 43, 44};
        Due.is("31: eight rest", x.hands(0, 1, -1), 8);
        for (int k = 0; k < pairs.length; k++) {
            Due.is("31: rising", x.hands(0, 1, k), pairs[k]);
        }
        Due.is("31: not so many", x.hands(0, 1, 8), -5);
        x = heads(40, 2);
        Due.is("31: none gets higher than at 40", x.hands(0, 1, -1), 1);
        Due.is("31: still, still", x.hands(0, 1, 0), 44);
        x = heads(37, 2);
        // up is worth 3 less 2, but to one of them only: then the other rests
        Due.is("31: one up", x.hands(0, 1, -1), 2);
        Due.is("31: the second up is worth nothing", x.hands(0, 1, 0), 4);
        Due.is("31: the second up is worth nothing", x.hands(0, 1, 1), 40);
    }

    private static void handsOfOneSnapped() {
        StringPuppets x = Made.torn(2);
        Due.is("31: both SNAPPED: still", x.hands(0, 1, -1), 1);
        Due.is("31: both SNAPPED: still", x.hands(0, 1, 0), 44);
        x.ties(1);
        Due.is("31: one SNAPPED", x.hands(0, 1, 0), 40);
        Due.is("31: one SNAPPED, the other way about", x.hands(1, 0, 0), 4);
        Made.move(x, 10, STILL);
        // worn by 90: snapped behind the first MOVE, 30 lower whatever is done
        Due.is("31: it snaps", x.hands(0, 1, -1), 1);
        Due.is("31: it snaps", x.hands(0, 1, 0), 44);
    }

    private static void fraction(String what, StringPuppets x, int n, int c, long above, long below) {
        Due.is(what, x.slack(n, c), 1);
        Due.is(what + ", above", x.part(0), above);
        Due.is(what + ", below", x.part(1), below);
    }

    private static void slackOfNoBeats() {
        StringPuppets x = new StringPuppets();
        for (int c : new int[] {0, 5, 10}) {
            fraction("32: n 0, no LIMB: 1", x, 0, c, 1, 1);
        }
        x.limb(0, 0, 1, 10, 4);
        for (int c : new int[] {0, 5, 10}) {
            fraction("32: n 0, a LIMB not as HIGH: 1", x, 0, c, 1, 1);
        }
    }

    private static void slackWithoutALimb() {
        StringPuppets x = new StringPuppets();
        for (int n = 1; n <= 6; n++) {
            fraction("32: else without one 0", x, n, 5, 0, 1);
        }
        x.limb(0, 0, 1, 20, 4);
        fraction("32: LIMB 0 is there and 0 HIGH", x, 1, 5, 1, 1);
        x.dance(1);
        fraction("32: LIMB 1 is not", x, 1, 5, 0, 1);
    }

    private static void slackNeverAndAlways() {
        StringPuppets x = heads(20, 1);
        x.beat(0, UP, 13);
        fraction("32: c 0: never still instead", x, 1, 0, 1, 1);
        fraction("32: c 10: always still instead", x, 1, 10, 0, 1);
        fraction("32: c 1", x, 1, 1, 9, 10);
        fraction("32: c 9", x, 1, 9, 1, 10);
        x.beat(0, UP, 10);
        fraction("32: c 0", x, 1, 0, 0, 1);
        fraction("32: c 10", x, 1, 10, 1, 1);
        x.beat(0, STILL, 10);
        fraction("32: still either way", x, 1, 3, 1, 1);
    }

    private static void slackOfSixBeats() {
        StringPuppets x = heads(20, 1);
        for (int t = 0; t < 8; t++) {
            x.beat(t, UP, t == 5 ? 28 : 0);
        }
        fraction("32: all six", x, 6, 9, 1, 1000000);
        fraction("32: all six", x, 6, 1, 531441, 1000000);
        fraction("32: the sixth tells, not the fifth", x, 5, 1, 0, 1);
        x.beat(4, UP, 25);
        fraction("32: the fifth tells", x, 5, 1, 59049, 100000);
        x.beat(5, UP, 19);
        // three of six: 20 times 1 / 64
        fraction("32: three of six", x, 6, 5, 5, 16);
        x.beat(6, DOWN, 0);
        x.beat(7, DOWN, 0);
        fraction("32: beats behind these do nothing", x, 6, 5, 5, 16);
        // six up from 31: 34, 37, 40, 40: three or more of six, 42 of 64
        x = heads(31, 1);
        for (int t = 0; t < 6; t++) {
            x.beat(t, UP, 30);
        }
        fraction("32: 40 at most", x, 6, 5, 21, 32);
    }

    private static void slackInLowestTerms() {
        StringPuppets x = heads(20, 1);
        x.beat(0, UP, 13);
        x.beat(1, UP, 13);
        int[] above = {0, 9, 8, 21, 12, 1, 12, 21, 8, 9, 0};
        int[] below = {1, 50, 25, 50, 25, 2, 25, 50, 25, 50, 1};
        for (int c = 0; c <= 10; c++) {
            fraction("32: one of two, c " + c, x, 2, c, above[c], below[c]);
        }
        // a string that snaps by a tilt: 81 at TILT 3, right makes it 99, still 90
        x = Made.one(20, 0, 0, 9, 10);
        Made.move(x, 6, STILL);
        Made.move(x, 3, RIGHT);
        x.beat(0, RIGHT, -20);
        fraction("32: SNAPPED", x, 1, 3, 7, 10);
    }

    /** The moves by each seed were worked out apart; a string's wear at the ends of the tilt tells them. */
    private static void nightsBySeeds() {
        int[] seeds = {0, 1, 7, 12345, 999999};
        int[][] moves = {{0, 3, 3, 2, 3, 2, 0, 1, 2, 0, 1, 2}, {3, 3, 3, 0, 1, 2, 0, 4, 2, 1, 4, 2},
            {4, 1, 3, 4, 1, 0, 4, 0, 0, 3, 3, 3}, {3, 3, 2, 3, 2, 0, 1, 2, 0, 1, 2, 4}, {3, 3, 3, 4, 2, 3, 0, 4, 0, 3, 1, 1}};
        for (int s = 0; s < seeds.length; s++) {
            for (int tilt = -4; tilt <= 4; tilt++) {
                StringPuppets x = tiltedSeven(tilt);
                for (int n = 1; n <= 12; n++) {
                    int told = x.nights(seeds[s], n);
                    StringPuppets done = tiltedSeven(tilt);
                    int snapped = 0;
                    for (int k = 0; k < n; k++) {
                        snapped = done.moves(moves[s][k]);
                    }
                    Due.is("33: SEED " + seeds[s] + ", n " + n + ", TILT " + tilt, told, snapped);
                }
            }
        }
    }

    private static StringPuppets tiltedSeven(int tilt) {
        StringPuppets x = Made.bar(20);
        Made.move(x, Math.abs(tilt), tilt < 0 ? LEFT : RIGHT);
        for (int w = 3; w <= 9; w++) {
            x.limb(0, 0, w, 10, 4);
        }
        return x;
    }

    private static void nightsAtTheEnds() {
        StringPuppets x = Made.torn(1);
        Due.is("33: n 0: as many as now", x.nights(999999, 0), 1);
        Due.is("33: without LIMBS", new StringPuppets().nights(0, 60), 0);
        nightsFrom(0, 39);
        nightsFrom(7, 13);
        nightsFrom(999999, 32);
    }

    /** A string of weight 1 so far worn comes to 99 just by the last of 60 moves. */
    private static void nightsFrom(int seed, int worn) {
        StringPuppets x = Made.one(20, 0, 0, 1, 10);
        Made.move(x, worn, STILL);
        Due.is("33: by the SEED " + seed + ", 59 MOVES", x.nights(seed, 59), 0);
        Due.is("33: by the SEED " + seed + ", 60 MOVES", x.nights(seed, 60), 1);
        x.undo();
        Due.is("33: by the SEED " + seed + ", WORN by 1 less", x.nights(seed, 60), 0);
    }
}
