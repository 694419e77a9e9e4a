/** The edges that the document's terms name: the bar, wear, how far strings drop, how high limbs are. */
public final class EdgesOfTermsTest {
    private static final int UP = 0, DOWN = 1, LEFT = 2, RIGHT = 3, STILL = 4;
    private static final int LIFT = 2, TILT = 3, MOVE = 4;
    private static final int WORN = 5, SNAPPED = 6, HIGH = 7;

    public static void main(String[] args) {
        atFirst();
        upTo40();
        downTo0();
        leftToMinus4();
        rightTo4();
        stillLeavesTheBar();
        eachMoveIsOneMore();
        wornByWeight();
        wornTwiceAtTheEnds();
        wornTwiceWhateverTheMove();
        snappedAt99();
        snappedAreWornNoMore();
        movesTellHowManyAreSnapped();
        aLimbThatComesIsNotWorn();
        silk();
        gut();
        elastic();
        wire();
        oldGut();
        ribbon();
        head();
        hand();
        foot();
        knee();
        tail();
        wing();
        holes();
        highestAndLowest();
        snappedAreAtMinus20();
        Due.finish();
    }

    private static void atFirst() {
        StringPuppets x = new StringPuppets();
        Due.is("1: no LIMBS", x.count(0), 0);
        Due.is("LIFT: 20 at first", x.count(LIFT), 20);
        Due.is("TILT: 0 at first", x.count(TILT), 0);
        Due.is("MOVES: 0 at first", x.count(MOVE), 0);
        x.limb(0, 0, 9, 20, 8);
        Due.is("WORN: 0 at first", x.of(0, WORN), 0);
        Due.is("SNAPPED: not at first", x.of(0, SNAPPED), 0);
        Due.is("THE FRACTION is 0 ..", x.part(0), 0);
        Due.is(".. by 1 at first", x.part(1), 1);
        Due.is("the DANCE: of LIMB 0 at first", x.dance(6), 0);
        for (int t = 0; t < 8; t++) {
            Due.is("the DANCE: MOVE 4 at first", x.beat(t, 0, 0), 4);
        }
    }

    private static void upTo40() {
        int[] from = {0, 36, 37, 38, 39, 40};
        int[] to = {3, 39, 40, 40, 40, 40};
        for (int k = 0; k < from.length; k++) {
            StringPuppets x = Made.bar(from[k]);
            x.moves(UP);
            Due.is("up from " + from[k], x.count(LIFT), to[k]);
            Due.is("up: TILT as it was", x.count(TILT), 0);
        }
    }

    private static void downTo0() {
        int[] from = {40, 4, 3, 2, 1, 0};
        int[] to = {37, 1, 0, 0, 0, 0};
        for (int k = 0; k < from.length; k++) {
            StringPuppets x = Made.bar(from[k]);
            x.moves(DOWN);
            Due.is("down from " + from[k], x.count(LIFT), to[k]);
            Due.is("down: TILT as it was", x.count(TILT), 0);
        }
    }

    private static void leftToMinus4() {
        StringPuppets x = Made.bar(20);
        for (int k = 1; k <= 6; k++) {
            x.moves(LEFT);
            Due.is("left " + k + " times", x.count(TILT), k < 4 ? -k : -4);
            Due.is("left: LIFT as it was", x.count(LIFT), 20);
        }
        x.moves(RIGHT);
        Due.is("right from -4", x.count(TILT), -3);
    }

    private static void rightTo4() {
        StringPuppets x = Made.bar(20);
        for (int k = 1; k <= 6; k++) {
            x.moves(RIGHT);
            Due.is("right " + k + " times", x.count(TILT), k < 4 ? k : 4);
            Due.is("right: LIFT as it was", x.count(LIFT), 20);
        }
        x.moves(LEFT);
        Due.is("left from 4", x.count(TILT), 3);
    }

    private static void stillLeavesTheBar() {
        for (int lift : new int[] {0, 20, 40}) {
            StringPuppets x = Made.bar(lift);
            Made.move(x, 4, lift == 0 ? LEFT : RIGHT);
            x.moves(STILL);
            Due.is("still: LIFT", x.count(LIFT), lift);
            Due.is("still: TILT", x.count(TILT), lift == 0 ? -4 : 4);
        }
    }

    private static void eachMoveIsOneMore() {
        StringPuppets x = Made.bar(40);
        for (int k = 1; k <= 50; k++) {
            x.moves(k % 5);
            Due.is("the MOVE is one more", x.count(MOVE), k);
        }
        x = Made.bar(40);
        x.moves(UP);
        Due.is("up from 40 is a MOVE, too", x.count(MOVE), 1);
    }

    private static void wornByWeight() {
        for (int w = 1; w <= 9; w++) {
            StringPuppets x = Made.one(20, 0, 0, w, 1);
            for (int m = 0; m <= 4; m++) {
                x.moves(m);
                Due.is("WORN by its WEIGHT", x.of(0, WORN), (m + 1) * w);
            }
        }
    }

    private static void wornTwiceAtTheEnds() {
        for (int side : new int[] {LEFT, RIGHT}) {
            StringPuppets x = Made.one(20, 0, 0, 3, 1);
            int[] worn = {3, 6, 9, 15, 21};
            for (int k = 0; k < worn.length; k++) {
                x.moves(side);
                Due.is("twice that, if TILT is 4 or -4, move " + side, x.of(0, WORN), worn[k]);
            }
            x.moves(side == LEFT ? RIGHT : LEFT);
            Due.is("once where it is no more", x.of(0, WORN), 24);
        }
    }

    private static void wornTwiceWhateverTheMove() {
        for (int m : new int[] {UP, DOWN, STILL}) {
            StringPuppets x = Made.one(20, 0, 0, 1, 1);
            Made.move(x, 4, LEFT);
            x.moves(m);
            Due.is("twice at -4 by " + m, x.of(0, WORN), 7);
        }
    }

    private static void snappedAt99() {
        int[] weights = {1, 5, 7, 9};
        int[] moves = {98, 19, 14, 10};
        int[] worn = {98, 95, 98, 90};
        for (int k = 0; k < weights.length; k++) {
            StringPuppets x = Made.one(20, 0, 0, weights[k], 1);
            Made.move(x, moves[k], STILL);
            Due.is("not 99 yet", x.of(0, WORN), worn[k]);
            Due.is("not SNAPPED yet", x.of(0, SNAPPED), 0);
            Due.is("not as HIGH as one SNAPPED", x.of(0, HIGH), 19);
            Due.is("SNAPPED then", x.moves(STILL), 1);
            Due.is("99 at most", x.of(0, WORN), 99);
            Due.is("who comes to 99 so is SNAPPED", x.of(0, SNAPPED), 1);
        }
        StringPuppets x = Made.one(20, 0, 0, 9, 1);
        Made.move(x, 6, RIGHT);
        Due.is("27, then 18 a MOVE", x.of(0, WORN), 81);
        Due.is("just 99 by twice its WEIGHT", x.moves(RIGHT), 1);
        Due.is("just 99 by twice its WEIGHT", x.of(0, WORN), 99);
    }

    private static void snappedAreWornNoMore() {
        StringPuppets x = Made.torn(1);
        x.limb(0, 0, 1, 1, 0);
        Made.move(x, 20, RIGHT);
        Due.is("99 it stays", x.of(0, WORN), 99);
        Due.is("SNAPPED it stays", x.of(0, SNAPPED), 1);
        Due.is("the other one is WORN on", x.of(1, WORN), 3 + 17 * 2);
    }

    private static void movesTellHowManyAreSnapped() {
        StringPuppets x = Made.bar(20);
        Due.is("7: without LIMBS", x.moves(STILL), 0);
        for (int k = 0; k < 7; k++) {
            x.limb(0, 0, k < 3 ? 9 : k < 6 ? 8 : 1, 1, 4);
        }
        for (int k = 1; k <= 15; k++) {
            Due.is("7: behind " + k, x.moves(STILL), k < 11 ? 0 : k < 13 ? 3 : 6);
        }
        x = Made.torn(7);
        Due.is("7: all seven", x.moves(STILL), 7);
    }

    private static void aLimbThatComesIsNotWorn() {
        StringPuppets x = Made.torn(6);
        Due.is("3: its number", x.limb(0, 0, 1, 1, 0), 6);
        Due.is("WORN: 0 at first, behind MOVES, too", x.of(6, WORN), 0);
        x.puppet(20);
        x.limb(0, 0, 1, 1, 0);
        Due.is("WORN: 0 at first, one SNAPPED having been there", x.of(0, WORN), 0);
        Due.is("SNAPPED: not at first, one SNAPPED having been there", x.of(0, SNAPPED), 0);
    }

    /** A head from the middle hole of a bar at 40 is as far below it as its string drops. */
    private static void drops(String what, int string, int length, int weight, int drop) {
        Due.is(what + ", l " + length + ", w " + weight, 40 - Made.one(40, 0, string, weight, length).of(0, HIGH), drop);
    }

    private static void silk() {
        drops("SILK: l", 0, 1, 1, 1);
        drops("SILK: l", 0, 20, 9, 20);
    }

    private static void gut() {
        int[] thirds = {0, 0, 1, 1, 1, 2, 2, 2, 3};
        for (int w = 1; w <= 9; w++) {
            drops("GUT: SILK and a third (cut) of w", 1, 10, w, 10 + thirds[w - 1]);
            drops("OLD GUT, not WORN: GUT", 4, 10, w, 10 + thirds[w - 1]);
        }
        StringPuppets x = Made.one(40, 0, 1, 9, 10);
        Made.move(x, 10, STILL);
        Due.is("GUT: WORN or not", x.of(0, HIGH), 27);
    }

    private static void elastic() {
        drops("ELASTIC: SILK and w", 2, 1, 1, 2);
        drops("ELASTIC: SILK and w", 2, 1, 9, 10);
        drops("ELASTIC: SILK and w", 2, 20, 9, 29);
    }

    private static void wire() {
        int[] lengths = {1, 2, 3, 19, 20};
        int[] drop = {1, 1, 3, 19, 19};
        for (int k = 0; k < lengths.length; k++) {
            drops("WIRE: 1 less, if l is an even number", 3, lengths[k], 1 + k, drop[k]);
        }
    }

    private static void oldGut() {
        StringPuppets x = Made.one(40, 0, 4, 1, 10);
        for (int n = 0; n <= 98; n++) {
            Due.is("OLD GUT: GUT and a tenth (cut) of " + n, 40 - x.of(0, HIGH), 10 + n / 10);
            x.moves(STILL);
        }
        x = Made.one(40, 0, 4, 9, 20);
        Made.move(x, 10, STILL);
        Due.is("OLD GUT: GUT, with its third, and a tenth of 90", 40 - x.of(0, HIGH), 20 + 3 + 9);
    }

    private static void ribbon() {
        drops("RIBBON: twice l at most", 5, 1, 1, 2);
        drops("RIBBON: twice l at most", 5, 1, 2, 2);
        drops("RIBBON: twice l at most", 5, 1, 9, 2);
        drops("RIBBON: ELASTIC, w being less than l", 5, 8, 7, 15);
        drops("RIBBON: either, w being l", 5, 8, 8, 16);
        drops("RIBBON: twice l, w being more", 5, 8, 9, 16);
        drops("RIBBON: ELASTIC", 5, 20, 9, 29);
    }

    /** On silk of length 1 from hole 8: tilted left four times it would be 16 lower than from the middle. */
    private static void highs(String what, int kind, int moves, int[] would, int[] high) {
        for (int k = 0; k < would.length; k++) {
            boolean low = would[k] < -1;
            StringPuppets x = Made.bar(would[k] + (low ? 17 : 1));
            x.limb(kind, 0, 1, 1, low ? 8 : 4);
            Made.move(x, low ? 4 : 0, LEFT);
            Made.move(x, moves, STILL);
            Due.is(what + ", h " + would[k], x.of(0, HIGH), high[k]);
        }
    }

    private static void head() {
        highs("HEAD: h, may be below 0", 0, 1, new int[] {-17, -2, -1, 0, 39}, new int[] {-17, -2, -1, 0, 39});
    }

    private static void hand() {
        highs("HAND: HEAD, 2 at least", 1, 1, new int[] {-17, -1, 0, 1, 2, 3, 39}, new int[] {2, 2, 2, 2, 2, 3, 39});
    }

    private static void foot() {
        highs("FOOT: HEAD, 0 at least, 9 at most", 2, 1, new int[] {-17, -1, 0, 1, 8, 9, 10, 39},
            new int[] {0, 0, 0, 1, 8, 9, 9, 9});
    }

    private static void knee() {
        highs("KNEE: half (cut) of FOOT", 3, 1, new int[] {-17, -1, 0, 1, 2, 3, 7, 8, 9, 10, 39},
            new int[] {0, 0, 0, 0, 1, 1, 3, 4, 4, 4, 4});
    }

    private static void tail() {
        int[] would = {-17, -1, 0, 1, 39};
        highs("TAIL behind MOVE 0 or 4: HEAD", 4, 0, would, would);
        highs("TAIL behind an odd MOVE: 1 less", 4, 1, would, new int[] {-18, -2, -1, 0, 38});
        highs("TAIL behind an even MOVE: HEAD", 4, 2, would, would);
        highs("TAIL behind an odd MOVE: 1 less", 4, 3, would, new int[] {-18, -2, -1, 0, 38});
    }

    private static void wing() {
        highs("WING: HAND and 3", 5, 1, new int[] {-17, -1, 1, 2, 3, 39}, new int[] {5, 5, 5, 5, 6, 42});
    }

    private static void holes() {
        for (int hole = 0; hole <= 8; hole++) {
            StringPuppets x = Made.bar(20);
            x.limb(0, 0, 1, 1, hole);
            Made.move(x, 4, LEFT);
            for (int tilt = -4; tilt <= 4; tilt++) {
                Due.is("HOLE " + hole + " at TILT " + tilt, x.of(0, HIGH), 19 + tilt * (hole - 4));
                x.moves(RIGHT);
            }
        }
    }

    private static void highestAndLowest() {
        StringPuppets x = Made.bar(40);
        x.limb(5, 0, 1, 1, 8);
        Made.move(x, 4, RIGHT);
        Due.is("a WING, as HIGH as any may be", x.of(0, HIGH), 40 + 16 - 1 + 3);
        x = Made.bar(0);
        x.limb(4, 2, 9, 20, 8);
        Made.move(x, 4, LEFT);
        x.moves(STILL);
        Due.is("a TAIL, as low as any may be", x.of(0, HIGH), -16 - 29 - 1);
    }

    private static void snappedAreAtMinus20() {
        for (int kind = 0; kind <= 5; kind++) {
            StringPuppets x = Made.one(20, kind, 0, 9, 1);
            Made.move(x, 11, STILL);
            Due.is("-20, whatever its KIND, " + kind, x.of(0, HIGH), -20);
            x.moves(STILL);
            Due.is("-20 behind an even MOVE, too", x.of(0, HIGH), -20);
            x.moves(UP);
            Due.is("-20, where ever THE BAR is", x.of(0, HIGH), -20);
        }
    }
}
