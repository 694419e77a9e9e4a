/** Each promise of the document by answers worked out by hand: ordinary calls, the edges it names, wrong ones. */
public final class PromisesTest {
    private static final int NONE = -1001, BAD = -1002, NO = -1003, FULL = -1004;
    private static StringPuppets x = new StringPuppets();

    public static void main(String[] args) {
        aNewObject();
        puppet();
        limb();
        typeAndClear();
        readOrdinary();
        readFaults();
        moves();
        movesWear();
        ties();
        hangs();
        undo();
        ofStrings();
        ofLimbs();
        touch();
        safe();
        few();
        both();
        hole();
        beatAndDance();
        comesOut();
        snaps();
        seenAndHeavy();
        tell();
        noteAndIs();
        look();
        markAndKinds();
        ask();
        forget();
        hands();
        slackAndPart();
        nights();
        images();
        status();
        count();
        digest();
        Due.finish();
    }

    private static void fresh(int lift) {
        x = new StringPuppets();
        x.puppet(lift);
    }

    private static long fold(long... values) {
        long h = 1783;
        for (long v : values) {
            h = 31 * h + v;
        }
        return h;
    }

    private static void aNewObject() {
        x = new StringPuppets();
        int[] counts = {0, 0, 20, 0, 0, 0, 0, 0, 0, 0, 0};
        for (int k = 0; k <= 10; k++) {
            Due.is("1: count(" + k + ")", x.count(k), counts[k]);
        }
        Due.is("1: part(0)", x.part(0), 0);
        Due.is("1: part(1)", x.part(1), 1);
        for (int k = 0; k < 3; k++) {
            Due.is("1: status", x.status(k), 0);
        }
        for (int k = 0; k < 8; k++) {
            Due.is("1: beat", x.beat(k, 0, 0), 4);
        }
        Due.is("1: dance", x.dance(3), 0);
        Due.is("1: from(0)", x.from(0), NO);
        Due.is("1: from(1)", x.from(1), NO);
        Due.is("1: undo", x.undo(), NO);
        Due.is("1: of", x.of(0, 0), BAD);
    }

    private static void puppet() {
        fresh(20);
        Due.is("2: no limbs", x.puppet(0), 0);
        Due.is("2: lift 0", x.count(2), 0);
        Due.is("2: lift 40", x.puppet(40), 0);
        Due.is("2: lift 40", x.count(2), 40);
        x.limb(0, 0, 5, 5, 0);
        x.limb(0, 0, 5, 5, 0);
        x.moves(3);
        x.beat(1, 0, 7);
        x.dance(5);
        x.seen(0, 1, 1, 0);
        x.note(0, 1, 1, 0, 1);
        x.mark(0, 0, 0, 0);
        x.slack(0, 0);
        x.image(1);
        x.type(65);
        long before = x.digest();
        Due.is("2: too high", x.puppet(41), BAD);
        Due.is("2: too low", x.puppet(-1), BAD);
        Due.is("2: nothing changed", x.digest(), before);
        Due.is("2: two limbs", x.puppet(7), 2);
        int[] counts = {0, 0, 7, 0, 0, 0, 0, 0, 0, 0, 1};
        for (int k = 0; k <= 10; k++) {
            Due.is("2: count(" + k + ")", x.count(k), counts[k]);
        }
        Due.is("2: the dance as at first", x.dance(0), 0);
        Due.is("2: the dance as at first", x.beat(1, 0, 0), 4);
        Due.is("2: the fraction stays", x.part(0), 1);
        Due.is("2: status stays", x.status(0), 2);
        Due.is("2: images stay", x.from(1), 1);
        Due.is("2: images stay", x.count(0), 2);
    }

    private static void limb() {
        fresh(20);
        int[][] bad = {{-1, 0, 1, 1, 0}, {6, 0, 1, 1, 0}, {0, -1, 1, 1, 0}, {0, 6, 1, 1, 0}, {0, 0, 0, 1, 0},
            {0, 0, 10, 1, 0}, {0, 0, 1, 0, 0}, {0, 0, 1, 21, 0}, {0, 0, 1, 1, -1}, {0, 0, 1, 1, 9}};
        for (int[] b : bad) {
            Due.is("3: bad", x.limb(b[0], b[1], b[2], b[3], b[4]), BAD);
        }
        Due.is("3: none came", x.count(0), 0);
        for (int k = 0; k < 7; k++) {
            Due.is("3: its number", x.limb(5, 5, 9, 20, 8), k);
        }
        Due.is("3: full", x.limb(0, 0, 1, 1, 0), FULL);
        Due.is("3: bad ahead of full", x.limb(0, 0, 1, 1, 9), BAD);
        Due.is("3: seven", x.count(0), 7);
        Due.is("3: status", x.status(0), 11);
        Due.is("3: status", x.status(2), 1);
    }

    private static void typeAndClear() {
        fresh(20);
        Due.is("4: bad", x.type(-1), BAD);
        Due.is("4: bad", x.type(128), BAD);
        Due.is("5: empty", x.clear(), 0);
        for (int k = 1; k <= 150; k++) {
            Due.is("4: how many", x.type(k % 2 == 0 ? 0 : 127), k);
        }
        Due.is("4: full", x.type(0), FULL);
        Due.is("4: bad ahead of full", x.type(128), BAD);
        Due.is("4: 150", x.count(10), 150);
        Due.is("5: how many", x.clear(), 150);
        Due.is("5: none", x.count(10), 0);
        Due.is("5: none", x.clear(), 0);
        Due.is("4: again", x.type(32), 1);
    }

    private static void readOrdinary() {
        fresh(20);
        x.limb(0, 0, 1, 1, 1);
        x.moves(0);
        x.beat(0, 0, 5);
        x.dance(4);
        x.seen(0, 1, 1, 1);
        x.note(0, 1, 1, 1, 1);
        x.mark(0, 1, 1, 1);
        x.image(0);
        x.slack(0, 0);
        Due.is("6: just a puppet", Made.read(x, "puppet 40;"), 1);
        Due.is("6: lift", x.count(2), 40);
        for (int what : new int[] {0, 3, 4, 6, 7, 8, 9}) {
            Due.is("6: nothing of the old one, count(" + what + ")", x.count(what), 0);
        }
        Due.is("6: the dance as at first", x.dance(0), 0);
        Due.is("6: the dance as at first", x.beat(0, 4, 0), 4);
        Due.is("6: the text stays", x.count(10), 10);
        Due.is("6: the fraction stays", x.part(0), 1);
        Due.is("6: status stays", x.status(0), 0);
        Due.is("6: again", x.read(), 1);
        Due.is("6: images stay", x.from(0), 1);
        Due.is("6: images stay", x.count(0), 1);

        Due.is("6: blanks where they may be", Made.read(x, "  puppet00 ;limb1 2 3 04 5;move 0 3  4 ; hang 0 5;hang 0 4;  "), 5);
        int[] told = {1, 2, 3, 4, 4, 9, 0, 2};
        for (int what = 0; what <= 7; what++) {
            Due.is("6: of(0, " + what + ")", x.of(0, what), told[what]);
        }
        Due.is("6: moves", x.count(4), 3);
        Due.is("6: lift", x.count(2), 3);
        Due.is("6: tilt", x.count(3), 1);
        Due.is("6: nothing to undo", x.undo(), NO);

        // 9, 18, 27, then 18 a move at tilt 4: 45, 63, 81, 99
        Due.is("6: tie", Made.read(x, "puppet 20;limb 0 0 9 5 4;move 3 3 3 3 3 3 3;tie 0;move 2;"), 5);
        Due.is("6: tied, worn since", x.of(0, 5), 9);
        Due.is("6: tied", x.of(0, 6), 0);
        Due.is("6: snapped", Made.read(x, "puppet 20;limb 0 0 9 5 4;move 3 3 3 3 3 3 3;"), 3);
        Due.is("6: snapped", x.count(1), 1);
        Due.is("6: nine numbers", Made.read(x, "puppet 20;move 0 1 2 3 4 4 4 4 4;"), 2);
        Due.is("6: seven limbs", Made.read(x, "puppet 9;limb 0 0 1 1 0;limb 0 0 1 1 0;limb 0 0 1 1 0;limb 0 0 1 1 0;"
            + "limb 0 0 1 1 0;limb 0 0 1 1 0;limb 0 0 1 1 0;"), 8);
        Due.is("6: a limb behind moves is not worn", Made.read(x, "puppet 9;move 4 4;limb 0 0 1 1 0;"), 3);
        Due.is("6: a limb behind moves is not worn", x.count(5), 0);
        Due.is("6: faults are not refusals", x.status(0) + x.status(2), 0);
    }

    private static void fault(String text, int place) {
        fresh(33);
        x.limb(0, 0, 1, 1, 1);
        long before = x.count(0) * 100 + x.count(2);
        Due.is("6: fault of '" + text + "'", Made.read(x, text), -10 - place);
        Due.is("6: all stays", x.count(0) * 100 + x.count(2), before);
    }

    private static void readFaults() {
        fault("", 0);
        fault("   ", 3);
        fault("puppet", 6);
        fault("puppet 2", 8);
        fault("puppet 20", 9);
        fault("puppet 20 ", 10);
        fault("pup", 0);
        fault(" puppets 20;", 1);
        fault("Puppet 20;", 0);
        fault("20;", 0);
        fault(";", 0);
        fault("limb 0 0 1 1 0;puppet 20;", 0);
        fault("puppet ;", 7);
        fault("puppet 41;", 7);
        fault("puppet 020;", 7);
        fault("puppet 1234;", 7);
        fault("puppet -1;", 7);
        fault("puppet x;", 7);
        fault("puppet 20 1;", 10);
        fault("puppet 20;;", 10);
        fault("puppet 20; puppet 20;", 11);
        fault("puppet 20;lim", 10);
        fault("puppet 20;20", 10);
        fault("puppet 20;\t", 10);
        fault("puppet 20;limb", 14);
        fault("puppet 20;limb 6 0 1 1 0;", 15);
        fault("puppet 20;limb 0 6 1 1 0;", 17);
        fault("puppet 20;limb 0 0 0 1 0;", 19);
        fault("puppet 20;limb 0 0 10 1 0;", 19);
        fault("puppet 20;limb 0 0 1 0 0;", 21);
        fault("puppet 20;limb 0 0 1 21 0;", 21);
        fault("puppet 20;limb 0 0 1 1 9;", 23);
        fault("puppet 20;limb 0 0 1 1;", 22);
        fault("puppet 20;limb 0 0 1 1 0 0;", 25);
        fault("puppet 20;limb 0 0 1 1 0", 24);
        fault("puppet 20;move;", 14);
        fault("puppet 20;move", 14);
        fault("puppet 20;move 5;", 15);
        fault("puppet 20;move 0 1", 18);
        fault("puppet 20;move 0 x;", 17);
        fault("puppet 20;move 0 1 2 3 4 0 1 2 3 4;", 33);
        fault("puppet 20;move 012;", 15);
        fault("puppet 20;tie 0;", 14);
        fault("puppet 20;limb 0 0 9 1 0;tie 0;", 29);
        fault("puppet 20;limb 0 0 9 1 0;tie 1;", 29);
        fault("puppet 20;limb 0 0 9 1 0;tie;", 28);
        fault("puppet 20;hang 0 1;limb 0 0 9 1 0;", 15);
        fault("puppet 20;limb 0 0 9 1 0;hang 0 9;", 32);
        fault("puppet 20;limb 0 0 9 1 0;hang 0;", 31);
        fault("puppet 20;limb 0 0 9 1 0;hang 1 0;", 30);
        fault("puppet 9;limb 0 0 1 1 0;limb 0 0 1 1 0;limb 0 0 1 1 0;limb 0 0 1 1 0;"
            + "limb 0 0 1 1 0;limb 0 0 1 1 0;limb 0 0 1 1 0;limb 0 0 1 1 0;", 114);
    }

    private static void moves() {
        fresh(38);
        Due.is("7: up", x.moves(0), 0);
        Due.is("7: 40 at most", x.count(2), 40);
        Due.is("7: down", x.moves(1), 0);
        Due.is("7: 3 less", x.count(2), 37);
        Made.move(x, 13, 1);
        Due.is("7: 0 at least", x.count(2), 0);
        Made.move(x, 3, 2);
        Due.is("7: left", x.count(3), -3);
        Made.move(x, 2, 2);
        Due.is("7: -4 at least", x.count(3), -4);
        Made.move(x, 9, 3);
        Due.is("7: 4 at most", x.count(3), 4);
        Due.is("7: still", x.moves(4), 0);
        Due.is("7: still", x.count(2) * 10 + x.count(3), 4);
        Due.is("7: the move", x.count(4), 30);
        Due.is("7: bad", x.moves(-1), BAD);
        Due.is("7: bad", x.moves(5), BAD);
        Due.is("7: the move", x.count(4), 30);
    }

    private static void movesWear() {
        fresh(20);
        x.limb(0, 0, 9, 1, 4);
        x.limb(0, 0, 5, 1, 4);
        Made.move(x, 10, 4);
        Due.is("7: worn by its weight", x.of(0, 5), 90);
        Due.is("7: not yet", x.count(1), 0);
        Due.is("7: snaps at 99", x.moves(4), 1);
        Due.is("7: 99", x.of(0, 5), 99);
        Due.is("7: snapped", x.of(0, 6), 1);
        Due.is("7: high", x.of(0, 7), -20);
        Due.is("7: all that are snapped", x.moves(4), 1);
        Due.is("7: the other", x.of(1, 5), 60);
        Made.move(x, 3, 2);
        Due.is("7: tilt -3", x.of(1, 5), 75);
        x.moves(2);
        Due.is("7: twice at -4", x.of(1, 5), 85);
        x.moves(3);
        Due.is("7: once at -3", x.of(1, 5), 90);
        Due.is("7: both", x.moves(2), 2);
        Due.is("7: 99 at most", x.of(1, 5), 99);
        Due.is("7: worn together", x.count(5), 198);
    }

    private static void ties() {
        fresh(20);
        Due.is("8: no limb", x.ties(0), BAD);
        x.limb(0, 0, 9, 1, 4);
        Due.is("8: not snapped", x.ties(0), NO);
        Due.is("8: bad", x.ties(1), BAD);
        Due.is("8: bad", x.ties(-1), BAD);
        Made.move(x, 11, 4);
        Due.is("8: worn as it was", x.ties(0), 99);
        Due.is("8: worn", x.of(0, 5), 0);
        Due.is("8: snapped", x.of(0, 6), 0);
        Due.is("8: high", x.of(0, 7), 19);
        Due.is("8: not snapped", x.ties(0), NO);
        x.undo();
        Due.is("8: undone", x.of(0, 6), 1);
    }

    private static void hangs() {
        fresh(20);
        Due.is("9: no limb", x.hangs(0, 0), BAD);
        x.limb(0, 0, 9, 1, 4);
        Due.is("9: it is there", x.hangs(0, 4), NO);
        Due.is("9: bad", x.hangs(0, 9), BAD);
        Due.is("9: bad", x.hangs(0, -1), BAD);
        Due.is("9: bad", x.hangs(1, 0), BAD);
        Due.is("9: which it was", x.hangs(0, 8), 4);
        Due.is("9: which it was", x.hangs(0, 0), 8);
        Made.move(x, 11, 4);
        Due.is("9: a snapped one, too", x.hangs(0, 1), 0);
        Due.is("9: a snapped one, too", x.of(0, 4), 1);
    }

    private static void undo() {
        fresh(20);
        x.limb(0, 0, 9, 1, 4);
        Due.is("10: none", x.undo(), NO);
        x.moves(0);
        x.moves(3);
        x.hangs(0, 8);
        Due.is("10: three", x.count(9), 3);
        Due.is("10: hanging", x.undo(), 2);
        Due.is("10: the hole", x.of(0, 4), 4);
        Due.is("10: the tilt", x.count(3), 1);
        Due.is("10: a move", x.undo(), 1);
        Due.is("10: the tilt", x.count(3), 0);
        Due.is("10: worn", x.of(0, 5), 9);
        Due.is("10: a move", x.undo(), 0);
        Due.is("10: the lift", x.count(2), 20);
        Due.is("10: worn", x.of(0, 5), 0);
        Due.is("10: none", x.undo(), NO);
        Made.move(x, 11, 4);
        Due.is("10: eight at most", x.count(9), 8);
        Due.is("10: snapped", x.count(1), 1);
        Due.is("10: snapped no more", x.undo(), 10);
        Due.is("10: snapped no more", x.count(1), 0);
        for (int k = 9; k >= 3; k--) {
            Due.is("10: back", x.undo(), k);
        }
        Due.is("10: no further", x.undo(), NO);
        Due.is("10: no further", x.count(4), 3);
        x.moves(4);
        x.limb(0, 0, 9, 1, 9);
        Due.is("10: a limb refused changes nothing", x.count(9), 1);
        x.limb(0, 0, 9, 1, 1);
        Due.is("10: none behind a limb", x.undo(), NO);
    }

    private static void dropDue(int string, int weight, int length, int drop) {
        x.puppet(40);
        x.limb(0, string, weight, length, 4);
        Due.is("11: string " + string, x.of(0, 7), 40 - drop);
    }

    private static void ofStrings() {
        fresh(20);
        dropDue(0, 9, 10, 10);
        dropDue(1, 2, 10, 10);
        dropDue(1, 3, 10, 11);
        dropDue(1, 9, 10, 13);
        dropDue(2, 9, 10, 19);
        dropDue(3, 9, 10, 9);
        dropDue(3, 9, 11, 11);
        dropDue(4, 8, 10, 12);
        dropDue(5, 9, 10, 19);
        dropDue(5, 9, 9, 18);
        dropDue(5, 9, 8, 16);
        x.puppet(20);
        x.limb(0, 4, 5, 5, 4);
        int[] highs = {14, 14, 13, 13, 12, 12, 11};
        for (int k = 0; k < highs.length; k++) {
            Due.is("11: old gut worn by " + 5 * k, x.of(0, 7), highs[k]);
            x.moves(4);
        }
    }

    /** On silk of length 1, from the middle hole. */
    private static void highDue(int kind, int lift, int moved, int high) {
        fresh(lift);
        x.limb(kind, 0, 1, 1, 4);
        Made.move(x, moved, 4);
        Due.is("11: kind " + kind + " from " + lift + " behind " + moved, x.of(0, 7), high);
    }

    private static void ofLimbs() {
        fresh(20);
        Due.is("11: no limb", x.of(0, 0), BAD);
        int[] lifts = {0, 1, 2, 3, 4, 9, 10, 11, 40};
        int[][] highs = {{-1, 0, 1, 2, 3, 8, 9, 10, 39}, {2, 2, 2, 2, 3, 8, 9, 10, 39}, {0, 0, 1, 2, 3, 8, 9, 9, 9},
            {0, 0, 0, 1, 1, 4, 4, 4, 4}, {-1, 0, 1, 2, 3, 8, 9, 10, 39}, {5, 5, 5, 5, 6, 11, 12, 13, 42}};
        for (int kind = 0; kind < 6; kind++) {
            for (int k = 0; k < lifts.length; k++) {
                highDue(kind, lifts[k], 0, highs[kind][k]);
                highDue(kind, lifts[k], 1, highs[kind][k] - (kind == 4 ? 1 : 0));
                highDue(kind, lifts[k], 2, highs[kind][k]);
            }
        }
        x.puppet(5);
        x.limb(0, 0, 1, 1, 0);
        x.limb(0, 0, 1, 1, 8);
        Made.move(x, 3, 3);
        Due.is("11: below 0", x.of(0, 7), 5 - 12 - 1);
        Due.is("11: the other side", x.of(1, 7), 5 + 12 - 1);
        Made.move(x, 6, 2);
        Due.is("11: tilted left", x.of(0, 7), 5 + 12 - 1);
        Due.is("11: tilted left", x.of(1, 7), 5 - 12 - 1);
        Due.is("11: bad", x.of(0, -1), BAD);
        Due.is("11: bad", x.of(0, 8), BAD);
        Due.is("11: bad", x.of(2, 0), BAD);
        Due.is("11: bad", x.of(-1, 0), BAD);
    }

    private static void touch() {
        fresh(20);
        Due.is("12: none", x.touch(-1), 0);
        Due.is("12: none", x.touch(0), -5);
        x.limb(0, 0, 9, 10, 4);
        x.limb(1, 3, 1, 11, 4);
        x.limb(0, 0, 1, 10, 4);
        x.limb(4, 3, 1, 11, 4);
        x.limb(1, 0, 1, 10, 8);
        Due.is("12: four pairs", x.touch(-1), 4);
        int[] pairs = {2, 4, 13, 24};
        Due.is("12: pairs", x.touch(0), pairs[0]);
        Due.is("12: pairs", x.touch(1), pairs[1]);
        Due.is("12: pairs", x.touch(2), pairs[2]);
        Due.is("12: pairs", x.touch(3), pairs[3]);
        Due.is("12: not so many", x.touch(4), -5);
        Due.is("12: not so many", x.touch(Integer.MAX_VALUE), -5);
        Due.is("12: bad", x.touch(-2), -10);
        Due.is("12: counts as bad", x.status(0), 1);
        x.moves(4);
        Due.is("12: the tail behind an odd move", x.touch(-1), 3);
        Made.move(x, 10, 4);
        Due.is("12: not the snapped one", x.touch(-1), 1);
        Due.is("12: not the snapped one", x.touch(0), 24);
        x.puppet(20);
        x.limb(0, 0, 9, 1, 0);
        x.limb(0, 0, 9, 1, 0);
        Made.move(x, 11, 4);
        Due.is("12: two snapped ones touch not", x.touch(-1), 0);
    }

    private static void safe() {
        fresh(20);
        Due.is("13: no limb", x.safe(0), BAD);
        x.limb(0, 0, 9, 1, 4);
        x.limb(0, 0, 1, 1, 4);
        x.limb(0, 0, 2, 1, 4);
        Due.is("13: 11", x.safe(0), 11);
        Due.is("13: none up to 60", x.safe(1), NONE);
        Due.is("13: 50", x.safe(2), 50);
        Due.is("13: bad", x.safe(3), BAD);
        Due.is("13: bad", x.safe(-1), BAD);
        Made.move(x, 4, 3);
        Due.is("13: worn by 45, 18 a move", x.safe(0), 3);
        Due.is("13: worn by 5, 2 a move", x.safe(1), 47);
        Made.move(x, 3, 4);
        Due.is("13: it is", x.safe(0), 0);
        Due.is("13: nothing changed", x.count(4), 7);
        x.puppet(20);
        x.limb(0, 0, 1, 1, 4);
        Made.move(x, 38, 4);
        Due.is("13: one beyond", x.safe(0), NONE);
        x.moves(4);
        Due.is("13: 60", x.safe(0), 60);
    }

    private static void few() {
        fresh(20);
        Due.is("14: no limb", x.few(0, 0, -1), -10);
        x.limb(0, 0, 1, 10, 4);
        Due.is("14: there", x.few(0, 10, -1), 0);
        Due.is("14: there", x.few(0, 10, 0), -5);
        Due.is("14: up", x.few(0, 13, -1), 1);
        Due.is("14: up", x.few(0, 13, 0), 0);
        Due.is("14: five down", x.few(0, -5, -1), 5);
        Due.is("14: five down", x.few(0, -5, 4), 1);
        Due.is("14: no more", x.few(0, -5, 5), -5);
        Due.is("14: six would do", x.few(0, -8, -1), -6);
        Due.is("14: none, whatever k", x.few(0, -8, 99), -6);
        Due.is("14: bad k", x.few(0, -8, -2), -10);
        Due.is("14: bad x", x.few(0, 61, -1), -10);
        Due.is("14: bad x", x.few(0, -41, -1), -10);
        Due.is("14: bad limb", x.few(1, 0, -1), -10);
        Due.is("14: bad limb", x.few(-1, 0, -1), -10);
        Due.is("14: counts as bad", x.status(0), 6);
        // from hole 5 a tilt is worth 1: 12 is up (3), left (-1): 0 2 rather than 2 0
        x.hangs(0, 5);
        Due.is("14: two moves", x.few(0, 12, -1), 2);
        Due.is("14: the first row", x.few(0, 12, 0), 0);
        Due.is("14: the first row", x.few(0, 12, 1), 2);
        Due.is("14: nothing changed", x.count(4), 0);
        // a tail behind an odd move is 1 less: still does it
        x.limb(4, 0, 1, 10, 4);
        Due.is("14: a tail", x.few(1, 9, -1), 1);
        Due.is("14: a tail", x.few(1, 9, 0), 2);
        Due.is("14: a tail up", x.few(1, 13, -1), 2);
        Due.is("14: a tail up", x.few(1, 13, 0), 0);
        Due.is("14: a tail up", x.few(1, 13, 1), 2);
        // as it comes to be worn: 3, 6, 9, 12: old gut drops 1 more behind the fourth move
        x.limb(0, 4, 3, 10, 4);
        Due.is("14: there", x.few(2, 9, -1), 0);
        Due.is("14: worn as it comes", x.few(2, 8, -1), 4);
        Due.is("14: worn as it comes", x.few(2, 8, 0), 0);
        Due.is("14: worn as it comes", x.few(2, 8, 1), 0);
        Due.is("14: worn as it comes", x.few(2, 8, 2), 1);
        Due.is("14: worn as it comes", x.few(2, 8, 3), 1);
        x.limb(0, 0, 9, 10, 4);
        Made.move(x, 9, 4);
        Due.is("14: snaps", x.few(3, -20, -1), 2);
        Due.is("14: snaps", x.few(3, -20, 0), 0);
        Due.is("14: snaps", x.few(3, -20, 1), 0);
        Due.is("14: high before it snaps", x.few(3, 16, -1), -6);
        Made.move(x, 2, 4);
        Due.is("14: it is snapped", x.few(3, -20, -1), 0);
    }

    private static void both() {
        fresh(20);
        x.limb(0, 0, 1, 10, 0);
        Due.is("15: one limb", x.both(0, 0, 1, 0), BAD);
        x.limb(0, 0, 1, 10, 8);
        Due.is("15: there", x.both(0, 10, 1, 10), 0);
        Due.is("15: right", x.both(0, 6, 1, 14), 1);
        Due.is("15: the other way", x.both(1, 14, 0, 6), 1);
        Due.is("15: up and right", x.both(0, 9, 1, 17), 2);
        Due.is("15: two up, three right", x.both(0, 4, 1, 28), 5);
        Due.is("15: three up, three right would do", x.both(0, 7, 1, 31), NONE);
        Due.is("15: none", x.both(0, 10, 1, 11), NONE);
        Due.is("15: alike", x.both(0, 10, 0, 10), BAD);
        Due.is("15: bad", x.both(0, 61, 1, 0), BAD);
        Due.is("15: bad", x.both(0, 0, 1, -41), BAD);
        Due.is("15: bad", x.both(2, 0, 1, 0), BAD);
        Due.is("15: bad", x.both(0, 0, -1, 0), BAD);
    }

    private static void hole() {
        fresh(20);
        Due.is("16: no limb", x.hole(0, 0, 0), BAD);
        x.limb(0, 0, 1, 10, 4);
        Due.is("16: all alike", x.hole(0, 12, 0), 0);
        Due.is("16: how far", x.hole(0, 12, 1), 2);
        Made.move(x, 2, 3);
        Due.is("16: hole 5", x.hole(0, 12, 0), 5);
        Due.is("16: just so", x.hole(0, 12, 1), 0);
        Due.is("16: of like ones the least", x.hole(0, 13, 0), 5);
        Due.is("16: 1 off", x.hole(0, 13, 1), 1);
        Due.is("16: the highest", x.hole(0, 60, 0), 8);
        Due.is("16: 42 off", x.hole(0, 60, 1), 42);
        Due.is("16: the lowest", x.hole(0, -40, 0), 0);
        Due.is("16: 42 off", x.hole(0, -40, 1), 42);
        Due.is("16: bad", x.hole(0, 61, 0), BAD);
        Due.is("16: bad", x.hole(0, -41, 0), BAD);
        Due.is("16: bad", x.hole(0, 0, 2), BAD);
        Due.is("16: bad", x.hole(0, 0, -1), BAD);
        Due.is("16: bad", x.hole(1, 0, 0), BAD);
        Due.is("16: nothing changed", x.of(0, 4), 4);
        x.limb(0, 0, 9, 10, 4);
        Made.move(x, 11, 4);
        Due.is("16: snapped", x.hole(1, 5, 0), 0);
        Due.is("16: snapped", x.hole(1, 5, 1), 25);
        Due.is("16: snapped", x.hole(1, -40, 1), 20);
    }

    private static void beatAndDance() {
        fresh(20);
        Due.is("17: the move it had", x.beat(7, 0, 60), 4);
        Due.is("17: the move it had", x.beat(7, 3, -40), 0);
        Due.is("17: the move it had", x.beat(7, 4, 0), 3);
        Due.is("17: bad", x.beat(-1, 0, 0), BAD);
        Due.is("17: bad", x.beat(8, 0, 0), BAD);
        Due.is("17: bad", x.beat(0, -1, 0), BAD);
        Due.is("17: bad", x.beat(0, 5, 0), BAD);
        Due.is("17: bad", x.beat(0, 0, 61), BAD);
        Due.is("17: bad", x.beat(0, 0, -41), BAD);
        Due.is("17: not changed by them", x.beat(0, 0, 0), 4);
        Due.is("18: which it was of", x.dance(6), 0);
        Due.is("18: which it was of", x.dance(0), 6);
        Due.is("18: bad", x.dance(7), BAD);
        Due.is("18: bad", x.dance(-1), BAD);
        Due.is("18: not changed by them", x.dance(1), 0);
    }

    private static void comesOut() {
        fresh(20);
        Due.is("19: no limb", x.comesOut(), 0);
        x.limb(0, 0, 1, 10, 4);
        x.limb(4, 0, 1, 10, 4);
        Due.is("19: none", x.comesOut(), 0);
        for (int t = 0; t < 8; t++) {
            x.beat(t, t < 4 ? 0 : 1, t < 4 ? 13 + 3 * t : 19 - 3 * (t - 4));
        }
        Due.is("19: all", x.comesOut(), 8);
        x.dance(1);
        Due.is("19: a tail, odd moves out", x.comesOut(), 4);
        x.dance(2);
        Due.is("19: not there", x.comesOut(), 0);
        x.dance(0);
        x.moves(0);
        Due.is("19: from now on", x.comesOut(), 0);
        Due.is("19: nothing changed", x.count(4), 1);
        x.puppet(20);
        x.limb(0, 0, 9, 10, 4);
        Made.move(x, 8, 4);
        x.beat(6, 4, -20);
        x.beat(7, 4, -20);
        x.beat(1, 4, -20);
        Due.is("19: behind its snapping", x.comesOut(), 2);
    }

    private static void snaps() {
        fresh(20);
        Due.is("20: no limb", x.snaps(), NONE);
        x.limb(0, 0, 1, 10, 4);
        x.limb(0, 0, 9, 10, 4);
        Due.is("20: not yet", x.snaps(), NONE);
        Made.move(x, 3, 4);
        Due.is("20: in the last beat, another limb's", x.snaps(), 7);
        x.dance(6);
        Due.is("20: whose dance ever", x.snaps(), 7);
        for (int t = 0; t < 4; t++) {
            x.beat(t, 3, 0);
        }
        // 27, then 36, 45, 54, 72, 90, 99
        Due.is("20: sooner, tilted", x.snaps(), 5);
        Made.move(x, 8, 4);
        Due.is("20: snapped already", x.snaps(), NONE);
        x.limb(0, 0, 9, 10, 4);
        Made.move(x, 10, 4);
        Due.is("20: another one", x.snaps(), 0);
    }

    private static void seenAndHeavy() {
        fresh(20);
        Due.is("21: no limb", x.seen(0, 1, 0, 0), BAD);
        x.limb(0, 1, 9, 1, 4);
        x.limb(2, 2, 9, 1, 4);
        Due.is("22: all", x.heavy(0, 0), 9);
        Due.is("22: all", x.heavy(0, 1), 1);
        Due.is("22: all", x.heavy(0, 2), 9);
        Due.is("21: one", x.seen(0, 10, 30, 19), 1);
        Due.is("22: gut: 3, 4, 5", x.heavy(0, 0), 3);
        Due.is("22: least", x.heavy(0, 1), 3);
        Due.is("22: greatest", x.heavy(0, 2), 5);
        Due.is("22: the other's none", x.heavy(1, 0), 9);
        Due.is("21: two", x.seen(1, 20, 25, 0), 2);
        Due.is("22: 0 at least", x.heavy(1, 0), 5);
        Due.is("22: 0 at least", x.heavy(1, 1), 5);
        Due.is("21: three", x.seen(1, 1, 8, 1), 3);
        Due.is("22: 6", x.heavy(1, 0), 1);
        Due.is("22: 6", x.heavy(1, 1), 6);
        Due.is("22: 6", x.heavy(1, 2), 6);
        Due.is("21: bad", x.seen(0, 0, 0, 0), BAD);
        Due.is("21: bad", x.seen(0, 21, 0, 0), BAD);
        Due.is("21: bad", x.seen(0, 1, -1, 0), BAD);
        Due.is("21: bad", x.seen(0, 1, 61, 0), BAD);
        Due.is("21: bad", x.seen(0, 1, 0, -41), BAD);
        Due.is("21: bad", x.seen(0, 1, 0, 61), BAD);
        Due.is("21: bad", x.seen(2, 1, 0, 0), BAD);
        Due.is("21: four", x.seen(0, 20, 60, -40), 4);
        Due.is("22: none", x.heavy(0, 0), 0);
        Due.is("22: none", x.heavy(0, 1), NONE);
        Due.is("22: none", x.heavy(0, 2), NONE);
        Due.is("21: five", x.seen(0, 1, 0, 60), 5);
        Due.is("21: full", x.seen(0, 1, 0, 60), FULL);
        Due.is("21: bad ahead of full", x.seen(0, 1, 0, 61), BAD);
        Due.is("22: bad", x.heavy(0, 3), BAD);
        Due.is("22: bad", x.heavy(0, -1), BAD);
        Due.is("22: bad", x.heavy(2, 0), BAD);
        Due.is("21: five", x.count(6), 5);
        // not worn, behind an even move, whatever the limb is now
        x.puppet(20);
        x.limb(4, 4, 9, 1, 4);
        x.limb(0, 0, 9, 1, 4);
        Made.move(x, 11, 4);
        x.seen(0, 10, 30, 17);
        Due.is("22: as told, worn or not", x.heavy(0, 0), 1);
        Due.is("22: as told, worn or not", x.heavy(0, 1), 9);
        x.seen(1, 10, 30, 20);
        Due.is("22: a snapped one, too", x.heavy(1, 0), 9);
    }

    private static void tell() {
        fresh(20);
        Due.is("23: no limb", x.tell(0), BAD);
        x.limb(0, 0, 1, 1, 4);
        x.limb(0, 5, 1, 1, 4);
        x.limb(2, 2, 1, 1, 4);
        Due.is("23: silk tells nothing", x.tell(0), 1);
        Due.is("23: ribbon from 9 on: all unlike but 9 and more", x.tell(1), 9);
        // foot at 30 - l - w: l 20: 9, 8, .. 1, all unlike; l 19: 9 (w 1, 2), ..
        Due.is("23: foot", x.tell(2), 20);
        x.seen(1, 2, 10, 7);
        Due.is("23: one weight", x.tell(1), 1);
        x.seen(1, 2, 10, 0);
        Due.is("23: none", x.tell(1), NONE);
        x.forget(0);
        x.seen(1, 2, 10, 6);
        // weights 2 .. 9
        Due.is("23: fewer", x.heavy(1, 1), 2);
        Due.is("23: fewer", x.tell(1), 9);
        Due.is("23: bad", x.tell(3), BAD);
        Due.is("23: bad", x.tell(-1), BAD);
        x.limb(0, 1, 1, 1, 4);
        Due.is("23: gut: thirds at any length", x.tell(3), 1);
    }

    private static void noteAndIs() {
        fresh(20);
        Due.is("24: no limb", x.note(0, 1, 1, 0, 0), BAD);
        Due.is("27: no limb", x.is(0), BAD);
        x.limb(0, 0, 1, 1, 4);
        x.limb(0, 0, 1, 1, 4);
        Due.is("27: all", x.is(0), 63);
        Due.is("24: one", x.note(0, 10, 9, 0, 13), 1);
        Due.is("27: gut, old gut", x.is(0), 2 + 16);
        Due.is("24: two", x.note(0, 10, 9, 10, 14), 2);
        Due.is("27: old gut", x.is(0), 16);
        Due.is("27: the other", x.is(1), 63);
        Due.is("24: three", x.note(1, 4, 9, 0, 8), 3);
        Due.is("27: ribbon", x.is(1), 32);
        Due.is("24: four", x.note(0, 20, 1, 99, 60), 4);
        Due.is("27: none", x.is(0), 0);
        Due.is("24: five", x.note(0, 1, 9, 0, 0), 5);
        Due.is("24: six", x.note(0, 20, 9, 99, 0), 6);
        Due.is("24: full", x.note(0, 1, 1, 0, 0), FULL);
        Due.is("24: bad ahead of full", x.note(2, 1, 1, 0, 0), BAD);
        x.forget(1);
        int[][] bad = {{0, 0, 1, 0, 0}, {0, 21, 1, 0, 0}, {0, 1, 0, 0, 0}, {0, 1, 10, 0, 0}, {0, 1, 1, -1, 0},
            {0, 1, 1, 100, 0}, {0, 1, 1, 0, -1}, {0, 1, 1, 0, 61}, {-1, 1, 1, 0, 0}};
        for (int[] b : bad) {
            Due.is("24: bad", x.note(b[0], b[1], b[2], b[3], b[4]), BAD);
        }
        Due.is("24: none of these", x.count(7), 0);
        Due.is("27: bad", x.is(2), BAD);
        x.note(0, 10, 2, 9, 9);
        Due.is("27: wire", x.is(0), 8);
        x.forget(1);
        x.note(0, 9, 2, 9, 9);
        Due.is("27: silk, gut, wire, old gut", x.is(0), 1 + 2 + 8 + 16);
    }

    private static void look() {
        fresh(20);
        Due.is("28: no limb", x.look(0), BAD);
        x.limb(0, 0, 1, 1, 4);
        // l 2, w 3: 2, 3, 5, 1, 3, 4: two alike, and no less while not worn
        Due.is("28: all", x.look(0), 302);
        x.note(0, 9, 9, 0, 12);
        Due.is("28: gut and old gut, not worn: never parted", x.look(0), 101);
        Made.move(x, 10, 4);
        Due.is("28: worn by 10", x.look(0), 101);
        x.note(0, 9, 9, 10, 12);
        Due.is("28: gut alone", x.look(0), 101);
        x.note(0, 9, 9, 10, 13);
        Due.is("28: none", x.look(0), NONE);
        x.forget(1);
        // worn by 10, old gut 1 more: all six unlike: l - 1, l, l + w / 3, that and 1, l + w, 2 l: w 5, l 4: 4, 5, 9, 3, 6, 8
        Due.is("28: all, worn by 10", x.look(0), 504);
        x.note(0, 1, 1, 0, 1);
        Due.is("28: silk, gut, wire, old gut", x.is(0), 27);
        Due.is("28: silk, gut, wire, old gut", x.look(0), 302);
        Due.is("28: bad", x.look(1), BAD);
        Due.is("28: bad", x.look(-1), BAD);
    }

    private static void markAndKinds() {
        fresh(20);
        Due.is("25: no limb", x.mark(0, 0, 0, 0), BAD);
        Due.is("29: no limb", x.kinds(0), BAD);
        x.limb(3, 0, 1, 1, 4);
        x.limb(3, 0, 1, 1, 4);
        Due.is("29: all", x.kinds(0), 63);
        Due.is("25: one", x.mark(0, 5, 1, 5), 1);
        Due.is("29: head, hand, foot", x.kinds(0), 7);
        Due.is("25: two", x.mark(0, 10, 0, 10), 2);
        Due.is("29: head, hand", x.kinds(0), 3);
        Due.is("25: three", x.mark(0, -40, 99, 2), 3);
        Due.is("29: hand", x.kinds(0), 2);
        Due.is("25: four", x.mark(1, 60, 99, 59), 4);
        Due.is("29: tail", x.kinds(1), 16);
        Due.is("25: five", x.mark(1, -40, 98, -40), 5);
        Due.is("29: tail", x.kinds(1), 16);
        Due.is("25: six", x.mark(1, 0, 0, 60), 6);
        Due.is("29: none", x.kinds(1), 0);
        Due.is("25: full", x.mark(1, 0, 0, 0), FULL);
        Due.is("25: bad ahead of full", x.mark(1, 0, 0, 61), BAD);
        x.forget(2);
        int[][] bad = {{0, -41, 0, 0}, {0, 61, 0, 0}, {0, 0, -1, 0}, {0, 0, 100, 0}, {0, 0, 0, -41}, {0, 0, 0, 61},
            {2, 0, 0, 0}, {-1, 0, 0, 0}};
        for (int[] b : bad) {
            Due.is("25: bad", x.mark(b[0], b[1], b[2], b[3]), BAD);
        }
        Due.is("25: none of these", x.count(8), 0);
        x.mark(0, 0, 0, 5);
        Due.is("29: wing", x.kinds(0), 32);
        x.forget(2);
        x.mark(0, 30, 0, 4);
        Due.is("29: knee", x.kinds(0), 8);
        Due.is("29: bad", x.kinds(2), BAD);
    }

    private static void ask() {
        fresh(20);
        Due.is("30: no limb", x.ask(0), BAD);
        x.limb(3, 0, 1, 1, 4);
        // h 1, t 1: 1, 2, 1, 0, 0, 5
        Due.is("30: all", x.ask(0), 11);
        x.mark(0, 5, 1, 5);
        // head, hand, foot: 10, 10, 9 at best, h 0: 0, 2, 0
        Due.is("30: head, hand, foot", x.ask(0), 0);
        x.mark(0, 5, 0, 4);
        Due.is("30: none", x.ask(0), NONE);
        x.forget(2);
        x.mark(0, 5, 0, 5);
        // and a tail: h 0, t 1: 0, 2, 0, -1; t 0: 0, 2, 0, 0
        Due.is("30: a tail, too", x.ask(0), 1);
        x.forget(2);
        x.mark(0, -1, 0, -1);
        Due.is("30: head, tail", x.kinds(0), 17);
        Due.is("30: head, tail", x.ask(0), 1);
        Due.is("30: bad", x.ask(1), BAD);
        Due.is("30: bad", x.ask(-1), BAD);
        x.forget(2);
        x.mark(0, 0, 0, 0);
        // head, foot, knee, tail: h 11, t 1: 11, 9, 4, 10
        Due.is("30: all unlike", x.ask(0), 111);
    }

    private static void forget() {
        fresh(20);
        x.limb(0, 0, 1, 1, 4);
        x.seen(0, 1, 1, 1);
        x.note(0, 1, 1, 1, 1);
        x.note(0, 1, 1, 1, 1);
        for (int k = 0; k < 3; k++) {
            x.mark(0, 1, 1, 1);
        }
        Due.is("26: bad", x.forget(3), BAD);
        Due.is("26: bad", x.forget(-1), BAD);
        for (int k = 0; k < 3; k++) {
            Due.is("26: there are", x.count(6 + k), k + 1);
            Due.is("26: how many", x.forget(k), k + 1);
            Due.is("26: none", x.count(6 + k), 0);
            Due.is("26: none", x.forget(k), 0);
        }
    }

    private static void hands() {
        fresh(20);
        x.limb(0, 0, 1, 10, 0);
        Due.is("31: one limb", x.hands(0, 1, -1), -10);
        x.limb(0, 0, 1, 10, 8);
        // up is worth 3 less 2 to both, left 4 less 2 to the first, right 4 less 2 to the second
        Due.is("31: one rests", x.hands(0, 1, -1), 1);
        Due.is("31: left, right", x.hands(0, 1, 0), 23);
        Due.is("31: right, left", x.hands(1, 0, 0), 32);
        Due.is("31: no more", x.hands(0, 1, 1), -5);
        Due.is("31: alike", x.hands(0, 0, -1), -10);
        Due.is("31: bad", x.hands(0, 1, -2), -10);
        Due.is("31: bad", x.hands(2, 1, -1), -10);
        Due.is("31: bad", x.hands(0, -1, -1), -10);
        Due.is("31: counts as bad", x.status(0), 5);
        Due.is("31: nothing changed", x.count(4), 0);
        // at the top, in the middle hole, nothing makes them higher: to be still is best
        x.puppet(40);
        x.limb(0, 0, 1, 10, 4);
        x.limb(0, 0, 1, 10, 4);
        Due.is("31: still, still", x.hands(0, 1, -1), 1);
        Due.is("31: still, still", x.hands(0, 1, 0), 44);
        // from 38 one of them gets up (2 less 2, as much as still); the other then rests still
        x.puppet(38);
        x.limb(0, 0, 1, 10, 4);
        x.limb(0, 0, 1, 10, 4);
        Due.is("31: three rest", x.hands(0, 1, -1), 3);
        Due.is("31: up, still", x.hands(0, 1, 0), 4);
        Due.is("31: still, up", x.hands(0, 1, 1), 40);
        Due.is("31: still, still", x.hands(0, 1, 2), 44);
    }

    private static void slackAndPart() {
        fresh(20);
        Due.is("32: n 0 without a limb", x.slack(0, 10), 1);
        Due.is("34: above", x.part(0), 1);
        Due.is("34: below", x.part(1), 1);
        Due.is("32: without one", x.slack(6, 5), 1);
        Due.is("34: above", x.part(0), 0);
        Due.is("34: below", x.part(1), 1);
        x.limb(0, 0, 1, 10, 4);
        x.beat(0, 0, 13);
        x.beat(1, 0, 13);
        x.slack(1, 3);
        Due.is("32: 7 of 10", x.part(0), 7);
        Due.is("32: 7 of 10", x.part(1), 10);
        x.slack(2, 3);
        Due.is("32: one of two: 42 of 100", x.part(0), 21);
        Due.is("32: one of two: 42 of 100", x.part(1), 50);
        x.slack(2, 0);
        Due.is("32: never slack", x.part(0), 0);
        Due.is("32: never slack", x.part(1), 1);
        x.slack(1, 0);
        Due.is("32: never slack", x.part(0), 1);
        x.slack(1, 10);
        Due.is("32: always slack", x.part(0), 0);
        x.beat(2, 4, 16);
        x.slack(3, 5);
        Due.is("32: both up", x.part(0), 1);
        Due.is("32: both up", x.part(1), 4);
        for (int t = 0; t < 6; t++) {
            x.beat(t, 0, 28);
        }
        x.slack(6, 9);
        Due.is("32: six of six", x.part(0), 1);
        Due.is("32: six of six", x.part(1), 1000000);
        Due.is("32: bad", x.slack(7, 0), BAD);
        Due.is("32: bad", x.slack(-1, 0), BAD);
        Due.is("32: bad", x.slack(0, 11), BAD);
        Due.is("32: bad", x.slack(0, -1), BAD);
        Due.is("34: stays", x.part(1), 1000000);
        Due.is("34: bad", x.part(2), BAD);
        Due.is("34: bad", x.part(-1), BAD);
        Due.is("34: counts as bad", x.status(0), 6);
        x.puppet(20);
        x.limb(0, 0, 1, 10, 4);
        x.beat(0, 4, 10);
        x.slack(1, 3);
        Due.is("32: still either way", x.part(0), 1);
        Due.is("32: nothing changed", x.count(4), 0);
    }

    private static void nights() {
        fresh(20);
        Due.is("33: no limb", x.nights(0, 60), 0);
        x.limb(0, 0, 9, 10, 4);
        Due.is("33: none", x.nights(999999, 0), 0);
        Due.is("33: five at most 90", x.nights(0, 5), 0);
        Due.is("33: 60 snap it", x.nights(0, 60), 1);
        Due.is("33: bad", x.nights(-1, 0), BAD);
        Due.is("33: bad", x.nights(1000000, 0), BAD);
        Due.is("33: bad", x.nights(0, -1), BAD);
        Due.is("33: bad", x.nights(0, 61), BAD);
        Due.is("33: nothing changed", x.of(0, 5), 0);
        // the shows once more by hand: as many strings must be snapped behind the same moves
        for (int seed : new int[] {1, 77, 4242, 999999}) {
            for (int n : new int[] {6, 7, 8, 9, 10, 11}) {
                x.puppet(20);
                for (int w = 1; w <= 7; w++) {
                    x.limb(0, 0, w + 2, 10, 4);
                }
                int got = x.nights(seed, n);
                long next = seed;
                int snapped = 0;
                for (int k = 0; k < n; k++) {
                    next = (next * 1103515245L + 12345L) & 0x7fffffffL;
                    snapped = x.moves((int) ((next >> 16) % 5));
                }
                Due.is("33: by the seed " + seed + ", " + n, got, snapped);
            }
        }
    }

    private static void images() {
        fresh(20);
        Due.is("36: none kept", x.from(0), NO);
        Due.is("36: none kept", x.from(1), NO);
        x.limb(4, 4, 9, 10, 4);
        x.moves(3);
        x.hangs(0, 2);
        x.beat(3, 1, -7);
        x.dance(2);
        x.seen(0, 1, 2, 3);
        x.note(0, 1, 2, 3, 4);
        x.mark(0, 1, 2, 3);
        long kept = x.digest();
        Due.is("35: kept", x.image(1), 1);
        Due.is("36: not that one", x.from(0), NO);
        x.slack(0, 0);
        x.type(65);
        x.moves(0);
        x.undo();
        x.undo();
        x.undo();
        x.limb(0, 0, 1, 1, 0);
        x.forget(0);
        x.forget(1);
        x.forget(2);
        x.puppet(3);
        Due.is("36: it goes on", x.from(1), 1);
        Due.is("36: the fraction stays", x.part(0), 1);
        Due.is("36: the text stays", x.clear(), 1);
        Due.is("36: status stays", x.status(1), 3);
        x.puppet(20);
        x.limb(0, 0, 1, 1, 4);
        x.dance(5);
        x.slack(1, 0);
        x.from(1);
        Due.is("36: all of it, the fraction 0 by 1 again", x.digest(), kept);
        Due.is("36: what may be undone", x.undo(), 1);
        Due.is("36: what may be undone", x.of(0, 4), 4);
        Due.is("36: what may be undone", x.undo(), 0);
        Due.is("36: the image stays", x.from(1), 1);
        Due.is("36: the image stays", x.digest(), kept);
        x.moves(0);
        Due.is("35: again", x.image(0), 1);
        x.from(1);
        Due.is("36: two", x.count(4), 1);
        x.from(0);
        Due.is("36: two", x.count(4), 2);
        Due.is("35: bad", x.image(2), BAD);
        Due.is("35: bad", x.image(-1), BAD);
        Due.is("36: bad", x.from(2), BAD);
        Due.is("36: bad", x.from(-1), BAD);
    }

    private static void status() {
        x = new StringPuppets();
        x.puppet(99);
        x.undo();
        x.from(0);
        for (int k = 0; k < 10; k++) {
            x.limb(0, 0, 1, 1, 1);
        }
        Due.is("37: bad", x.status(0), 1);
        Due.is("37: no", x.status(1), 2);
        Due.is("37: full", x.status(2), 3);
        Due.is("37: another", x.status(3), -1);
        Due.is("37: another", x.status(-1), -1);
        Due.is("37: counts as bad", x.status(0), 3);
        x.touch(99);
        x.few(0, 60, -1);
        x.both(0, 60, 1, 60);
        x.safe(0);
        x.snaps();
        x.read();
        x.hands(0, 1, 99);
        Due.is("37: what is none is not refused", x.status(0) * 100 + x.status(1) * 10 + x.status(2), 323);
        x.touch(-2);
        x.few(9, 0, 0);
        x.hands(0, 0, 0);
        Due.is("37: -10 counts as bad", x.status(0), 6);
        long before = x.digest();
        x.status(7);
        Due.is("37: no part of the digest", x.digest(), before);
    }

    private static void count() {
        fresh(11);
        x.limb(0, 0, 9, 1, 1);
        x.limb(0, 0, 4, 1, 1);
        Made.move(x, 12, 2);
        x.type(1);
        x.seen(0, 1, 1, 1);
        x.note(0, 1, 1, 1, 1);
        x.note(0, 1, 1, 1, 1);
        x.mark(0, 1, 1, 1);
        x.mark(0, 1, 1, 1);
        x.mark(0, 1, 1, 1);
        // 4, 8, 12, then 8 a move: 12 + 9 times 8
        int[] counts = {2, 1, 11, -4, 12, 99 + 84, 1, 2, 3, 8, 1};
        for (int k = 0; k <= 10; k++) {
            Due.is("38: count(" + k + ")", x.count(k), counts[k]);
        }
        Due.is("38: bad", x.count(11), BAD);
        Due.is("38: bad", x.count(-1), BAD);
    }

    private static void digest() {
        x = new StringPuppets();
        Due.is("39: at first", x.digest(), fold(0, 0, 20, 0, 0, 0, 0, 0, 0, 0, 0,
            4, 0, 4, 0, 4, 0, 4, 0, 4, 0, 4, 0, 4, 0, 4, 0, 0, 0, 1));
        x.limb(1, 2, 3, 4, 5);
        x.limb(0, 5, 9, 20, 8);
        x.moves(2);
        x.beat(0, 1, -9);
        x.beat(7, 3, 60);
        x.dance(6);
        x.seen(1, 2, 3, -4);
        x.note(0, 5, 6, 7, 8);
        x.note(1, 6, 7, 8, 9);
        x.mark(1, -2, 3, 4);
        x.type(59);
        x.slack(0, 0);
        Due.is("39: of all", x.digest(), fold(2, 0, 20, -1, 1, 12, 1, 2, 1, 1, 1,
            1, 2, 3, 4, 5, 3, 0, 0, 5, 9, 20, 8, 9, 0,
            1, -9, 4, 0, 4, 0, 4, 0, 4, 0, 4, 0, 4, 0, 3, 60, 6,
            1, 2, 3, -4, 0, 5, 6, 7, 8, 1, 6, 7, 8, 9, 1, -2, 3, 4, 1, 1));
    }
}
