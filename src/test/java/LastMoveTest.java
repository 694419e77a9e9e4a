/**
 * The edge of the MOVE, 9999. No run of 512 calls comes there, so what is asked here is no promise that a user could
 * see broken; the sentence has its test all the same, by more calls than that.
 */
public final class LastMoveTest {
    private static final int BAD = -1002, NO = -1003;
    private static final int STILL = 4;

    public static void main(String[] args) {
        lastButOne();
        noMoveBehindTheLast();
        looksGoBeyond();
        theRestGoesOn();
        Due.finish();
    }

    /** A tail on silk of length 10 from a bar at 20, not worn, behind so many moves. */
    private static StringPuppets behind(int moves) {
        StringPuppets x = Made.bar(20);
        Made.move(x, moves, STILL);
        x.limb(4, 0, 1, 10, 4);
        return x;
    }

    private static void lastButOne() {
        StringPuppets x = behind(9998);
        Due.is("7: MOVE 9998", x.moves(STILL), 0);
        Due.is("7: 9999 at most", x.count(4), 9999);
        Due.is("7: a tail behind an odd MOVE", x.of(0, 7), 9);
        Due.is("7: MOVE 9999", x.moves(STILL), NO);
        Due.is("10: back", x.undo(), 9998);
        Due.is("7: and forth", x.moves(STILL), 0);
    }

    private static void noMoveBehindTheLast() {
        for (int m = 0; m <= 4; m++) {
            int move = m;
            Twins.refused("7: MOVE 9999, " + m, () -> behind(9999), x -> x.moves(move), NO, Twins.NO);
        }
        Twins.refused("7: BAD ahead of NO", () -> behind(9999), x -> x.moves(5), BAD, Twins.BAD);
        Twins.refused("7: BAD ahead of NO", () -> behind(9999), x -> x.moves(-1), BAD, Twins.BAD);
    }

    private static void looksGoBeyond() {
        StringPuppets x = behind(9999);
        Due.is("14: behind MOVE 10000 it is 1 higher", x.few(0, 10, -1), 1);
        Due.is("14: behind MOVE 10000 it is 1 higher", x.few(0, 10, 0), 2);
        Due.is("13: 60 MOVES on", x.safe(0), -1001);
        for (int t = 0; t < 8; t++) {
            x.beat(t, STILL, t % 2 == 0 ? 10 : 9);
        }
        Due.is("19: eight MOVES on", x.comesOut(), 8);
        Due.is("32: one MOVE on", x.slack(1, 5) + x.part(0) + x.part(1), 3);
        Due.is("33: 60 MOVES on", x.nights(0, 60), 0);
        Due.is("they change nothing", x.count(4), 9999);
    }

    private static void theRestGoesOn() {
        StringPuppets x = behind(9999);
        Due.is("9: no MOVE", x.hangs(0, 0), 4);
        Due.is("10: no MOVE", x.undo(), 9999);
        Due.is("6: another puppet", Made.read(x, "puppet 20;move 4;"), 2);
        Due.is("7: moves again", x.moves(STILL), 0);
        Due.is("7: moves again", x.count(4), 2);
    }
}
