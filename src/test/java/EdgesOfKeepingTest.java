/** The edges of what is kept: seen, notes, marks and what fits them; what may be undone; images; counts; the digest. */
public final class EdgesOfKeepingTest {
    private static final int NONE = -1001, NO = -1003, FULL = -1004;
    private static final int UP = 0, LEFT = 2, RIGHT = 3, STILL = 4;

    public static void main(String[] args) {
        fiveSeen();
        sixNotes();
        sixMarks();
        forgetOneKindAlone();
        heavyAllOneNone();
        heavyOfSeenOnesNotWorn();
        tellTheLeastOfLikeOnes();
        tellFromAHoleAt30();
        tellNone();
        isAllOneNone();
        lookNoneAndLeast();
        lookWornAsItIs();
        kindsAllOneNone();
        askNoneAndLeast();
        tiedAnew();
        hungElsewhere();
        undoEightAtMost();
        undoEachKind();
        undoBehindALimb();
        undoCountsNothingRefused();
        undoLeavesTheRest();
        imagesKeepAll();
        imagesKeepWhatIsToldAnewBehind();
        imagesAreApart();
        imagesOfNoLimbs();
        puppetMakesAllElseAsAtFirst();
        counts();
        digestOfNothing();
        digestOfAll();
        Due.finish();
    }

    private static StringPuppets heads(int limbs) {
        StringPuppets x = Made.bar(20);
        for (int k = 0; k < limbs; k++) {
            x.limb(0, 0, 1, 10, 4);
        }
        return x;
    }

    private static void fiveSeen() {
        StringPuppets x = heads(2);
        for (int k = 1; k <= 5; k++) {
            Due.is("21: how many there are", x.seen(k % 2, 20, 60, 40), k);
        }
        Due.is("21: FULL: 5, of all LIMBS together", x.seen(0, 1, 0, 0), FULL);
        Due.is("38: SEEN", x.count(6), 5);
        Due.is("22: the last counts, too", x.heavy(1, 0), 9);
        Due.is("26: how many there were", x.forget(0), 5);
        Due.is("21: room again", x.seen(0, 1, 0, -1), 1);
        Due.is("22: what was forgotten counts no more", x.heavy(0, 0), 9);
    }

    private static void sixNotes() {
        StringPuppets x = heads(2);
        for (int k = 1; k <= 6; k++) {
            Due.is("24: how many there are", x.note(k % 2, 20, 9, 99, 20), k);
        }
        Due.is("24: FULL: 6, of all LIMBS together", x.note(0, 1, 1, 0, 0), FULL);
        Due.is("38: NOTES", x.count(7), 6);
        Due.is("26: how many there were", x.forget(1), 6);
        Due.is("24: room again", x.note(0, 1, 1, 0, 2), 1);
        Due.is("27: what was forgotten counts no more", x.is(0), 4 + 32);
    }

    private static void sixMarks() {
        StringPuppets x = heads(2);
        for (int k = 1; k <= 6; k++) {
            Due.is("25: how many there are", x.mark(k % 2, 60, 99, 60), k);
        }
        Due.is("25: FULL: 6, of all LIMBS together", x.mark(0, 0, 0, 0), FULL);
        Due.is("38: MARKS", x.count(8), 6);
        Due.is("26: how many there were", x.forget(2), 6);
        Due.is("25: room again", x.mark(0, 60, 99, 59), 1);
        Due.is("29: what was forgotten counts no more", x.kinds(0), 16);
    }

    private static void forgetOneKindAlone() {
        for (int what = 0; what <= 2; what++) {
            StringPuppets x = Made.full();
            int[] had = {5, 6, 6};
            Due.is("26: how many there were", x.forget(what), had[what]);
            for (int k = 0; k <= 2; k++) {
                Due.is("26: the others stay", x.count(6 + k), k == what ? 0 : had[k]);
            }
            Due.is("26: none there any more", x.forget(what), 0);
        }
    }

    private static void heavy(String what, StringPuppets x, int i, int many, int least, int greatest) {
        Due.is(what + ", how many", x.heavy(i, 0), many);
        Due.is(what + ", the least", x.heavy(i, 1), least);
        Due.is(what + ", the greatest", x.heavy(i, 2), greatest);
    }

    private static void heavyAllOneNone() {
        StringPuppets x = Made.bar(20);
        x.limb(0, 2, 5, 5, 4);
        x.limb(0, 2, 5, 5, 4);
        heavy("22: none SEEN", x, 0, 9, 1, 9);
        x.seen(0, 10, 30, 19);
        heavy("22: WEIGHT 1", x, 0, 1, 1, 1);
        heavy("22: not of the other", x, 1, 9, 1, 9);
        x.seen(1, 10, 30, 11);
        heavy("22: WEIGHT 9", x, 1, 1, 9, 9);
        x.seen(1, 20, 60, 31);
        heavy("22: WEIGHT 9, twice", x, 1, 1, 9, 9);
        x.seen(0, 10, 30, 18);
        heavy("22: all SEEN must be so", x, 0, 0, NONE, NONE);
        x.forget(0);
        x.seen(0, 10, 30, 20);
        heavy("22: WEIGHT 0 is none", x, 0, 0, NONE, NONE);
        x.seen(1, 10, 30, 10);
        heavy("22: WEIGHT 10 is none", x, 1, 0, NONE, NONE);
        x = Made.bar(20);
        x.limb(5, 1, 9, 5, 4);
        x.seen(0, 20, 0, 5);
        heavy("22: a wing, too low to tell", x, 0, 9, 1, 9);
        x.seen(0, 10, 60, 60);
        heavy("22: 60", x, 0, 0, NONE, NONE);
        x.forget(0);
        x.seen(0, 10, 60, 50);
        heavy("22: gut: 9 alone has a third of 3", x, 0, 1, 9, 9);
        x.forget(0);
        x.seen(0, 10, 60, 53);
        heavy("22: gut: 1 and 2 have none", x, 0, 2, 1, 2);
    }

    private static void heavyOfSeenOnesNotWorn() {
        StringPuppets x = Made.one(20, 4, 4, 9, 5);
        Made.move(x, 5, STILL);
        x.seen(0, 10, 30, 18);
        heavy("22: not WORN, behind an even MOVE", x, 0, 3, 6, 8);
        Made.move(x, 6, STILL);
        heavy("22: one SNAPPED, too", x, 0, 3, 6, 8);
    }

    private static void tellTheLeastOfLikeOnes() {
        Due.is("23: no LENGTH parts by silk: the least", Made.one(20, 0, 0, 1, 9).tell(0), 1);
        Due.is("23: ribbon: from 8 on but 8 and 9 are alike; from 9 on none", Made.one(20, 0, 5, 1, 1).tell(0), 9);
        Due.is("23: elastic: the least parts all", Made.one(20, 0, 2, 1, 9).tell(0), 1);
        // a foot at 30 - l - w, 9 at most: by 20 alone 9 .. 1
        Due.is("23: a foot: the greatest LENGTH", Made.one(20, 2, 2, 1, 9).tell(0), 20);
        // a knee by 20: 4 4 3 3 2 2 1 1 0: two alike; by 19: 4 (w 1, 2, 3): three
        Due.is("23: a knee", Made.one(20, 3, 2, 1, 9).tell(0), 20);
        // a foot on gut by 20: 9 (10), 9 (10), 9, 9, 9, 8: five alike; by 19: 9 all but w 9; so 20
        Due.is("23: a foot on gut", Made.one(20, 2, 1, 1, 9).tell(0), 20);
        StringPuppets x = Made.one(20, 2, 1, 1, 9);
        x.seen(0, 10, 13, 2);
        Due.is("23: WEIGHTS 3, 4, 5: never parted", x.heavy(0, 1) * 10 + x.heavy(0, 2), 35);
        Due.is("23: WEIGHTS 3, 4, 5: never parted", x.tell(0), 1);
    }

    /** A foot is 9 at most, so a length parts weights only where it brings the greater ones of them below 9. */
    private static void tellFromAHoleAt30() {
        StringPuppets x = Made.one(20, 2, 2, 1, 9);
        for (int least = 1; least <= 8; least++) {
            x.forget(0);
            // 9 at most: none heavier than the next one; 0 at least: none lighter than this
            x.seen(0, 1, 11 + least, 9);
            x.seen(0, 1, 1 + least, 0);
            heavy("22: two WEIGHTS", x, 0, 2, least, least + 1);
            Due.is("23: " + least + " and the next one at 9 and 8", x.tell(0), 21 - least);
        }
        x.forget(0);
        x.seen(0, 1, 4, 1);
        Due.is("23: one WEIGHT", x.heavy(0, 1), 2);
        Due.is("23: one WEIGHT: the least LENGTH", x.tell(0), 1);
    }

    private static void tellNone() {
        StringPuppets x = Made.one(20, 0, 0, 1, 9);
        x.seen(0, 10, 30, 19);
        Due.is("23: none: no WEIGHT", x.tell(0), NONE);
        x.forget(0);
        Due.is("23: any WEIGHT", x.tell(0), 1);
    }

    private static void isAllOneNone() {
        StringPuppets x = heads(2);
        Due.is("27: no NOTES: all", x.is(0), 63);
        int[][] notes = {{9, 9, 0, 9}, {9, 9, 0, 12}, {9, 9, 0, 18}, {8, 9, 0, 7}, {9, 9, 99, 21}, {8, 9, 0, 16}};
        int[] fits = {1 + 8, 2 + 16, 4 + 32, 8, 16, 32};
        for (int k = 0; k < notes.length; k++) {
            x.note(0, notes[k][0], notes[k][1], notes[k][2], notes[k][3]);
            Due.is("27: by the note " + k, x.is(0), fits[k]);
            Due.is("27: not of the other", x.is(1), 63);
            x.forget(1);
        }
        x.note(0, 9, 9, 0, 12);
        x.note(0, 9, 9, 9, 12);
        Due.is("27: WORN by 9 tells nothing", x.is(0), 2 + 16);
        x.note(0, 9, 9, 10, 12);
        Due.is("27: WORN by 10 does", x.is(0), 2);
        x.note(0, 9, 9, 0, 13);
        Due.is("27: all NOTES must be so", x.is(0), 0);
        x.note(1, 20, 9, 99, 60);
        Due.is("27: no KIND", x.is(1), 0);
    }

    private static void lookNoneAndLeast() {
        StringPuppets x = heads(1);
        // of all six gut and old gut are alike, not worn: w 3, l 2: 2, 3, 5, 1, 3, 4, the first with no more than two
        Due.is("28: of like ones the least", x.look(0), 302);
        x.note(0, 8, 9, 0, 7);
        Due.is("28: one KIND: the least of all", x.look(0), 101);
        x.note(0, 8, 9, 0, 8);
        Due.is("28: none: no KIND", x.look(0), NONE);
        x.forget(1);
        x.note(0, 9, 9, 0, 9);
        Due.is("28: silk and wire: by an even LENGTH", x.look(0), 102);
        x.forget(1);
        x.note(0, 10, 9, 0, 19);
        Due.is("28: elastic and ribbon: by less than the WEIGHT", x.look(0), 201);
        x.forget(1);
        x.note(0, 10, 9, 0, 13);
        Due.is("28: gut and old gut, not WORN: never", x.look(0), 101);
        x.forget(1);
        x.note(0, 10, 2, 0, 10);
        // silk, gut, old gut: by w 3 gut and old gut go apart from silk
        Due.is("28: silk, gut, old gut", x.look(0), 301);
    }

    private static void lookWornAsItIs() {
        StringPuppets x = Made.one(20, 0, 0, 1, 10);
        x.note(0, 10, 9, 0, 13);
        x.note(0, 9, 9, 0, 12);
        Made.move(x, 9, STILL);
        Due.is("28: gut and old gut, WORN by 9", x.look(0), 101);
        x.forget(1);
        x.note(0, 10, 2, 0, 10);
        Due.is("28: silk, gut, old gut, WORN by 9", x.look(0), 301);
        x.moves(STILL);
        // worn by 10 old gut is apart from both, by w 1 silk and gut are alike: two; by w 3: l, l + 1, l + 2
        Due.is("28: silk, gut, old gut, WORN by 10", x.look(0), 301);
        x.forget(1);
        // all six unlike: w 5, l 4: 4, 5, 9, 3, 6, 8
        Due.is("28: all six, WORN by 10", x.look(0), 504);
        Made.move(x, 89, STILL);
        // SNAPPED, worn by 99: w 3, l 2: 2, 3, 5, 1, 12, 4
        Due.is("28: all six, WORN by 99", x.look(0), 302);
    }

    private static void kindsAllOneNone() {
        StringPuppets x = heads(2);
        Due.is("29: no MARKS: all", x.kinds(0), 63);
        int[][] marks = {{-40, 98, -40}, {-40, 99, -40}, {-40, 99, 2}, {60, 0, 9}, {60, 0, 4}, {60, 99, 59}, {-40, 0, 5},
            {0, 0, 0}, {2, 0, 2}, {9, 0, 9}, {10, 0, 10}, {57, 1, 60}};
        int[] fits = {1 + 16, 1, 2, 4, 8, 16, 32, 1 + 4 + 8 + 16, 1 + 2 + 4 + 16, 1 + 2 + 4 + 16, 1 + 2 + 16, 32};
        for (int k = 0; k < marks.length; k++) {
            x.mark(0, marks[k][0], marks[k][1], marks[k][2]);
            Due.is("29: by the mark " + k, x.kinds(0), fits[k]);
            Due.is("29: not of the other", x.kinds(1), 63);
            x.forget(2);
        }
        x.mark(0, 0, 0, 0);
        x.mark(0, 1, 1, 0);
        Due.is("29: all MARKS must be so", x.kinds(0), 8 + 16);
        x.mark(0, 1, 0, 0);
        Due.is("29: all MARKS must be so", x.kinds(0), 8);
        x.mark(0, 1, 0, 1);
        Due.is("29: no KIND", x.kinds(0), 0);
    }

    private static void askNoneAndLeast() {
        StringPuppets x = heads(1);
        // h 1, t 1: 1, 2, 1, 0, 0, 5: two alike, the first so
        Due.is("30: of like ones the least", x.ask(0), 11);
        x.mark(0, 60, 0, 4);
        Due.is("30: one KIND: the least of all", x.ask(0), 0);
        x.mark(0, 60, 0, 5);
        Due.is("30: none: no KIND", x.ask(0), NONE);
        x.forget(2);
        x.mark(0, -40, 98, -40);
        Due.is("30: head and tail: behind an odd MOVE", x.ask(0), 1);
        x.forget(2);
        x.mark(0, 5, 1, 5);
        x.mark(0, 0, 0, 0);
        // head and foot: apart from 10 on
        Due.is("30: head and foot", x.kinds(0), 1 + 4);
        Due.is("30: head and foot", x.ask(0), 100);
        x.forget(2);
        x.mark(0, 0, 0, 0);
        // head, foot, knee, tail: h 11, t 1: 11, 9, 4, 10
        Due.is("30: head, foot, knee, tail", x.ask(0), 111);
    }

    private static void tiedAnew() {
        StringPuppets x = Made.torn(2);
        Due.is("8: WORN as it was", x.ties(1), 99);
        Due.is("8: WORN by 0", x.of(1, 5), 0);
        Due.is("8: SNAPPED no more", x.of(1, 6), 0);
        Due.is("8: HIGH again", x.of(1, 7), 10);
        Due.is("8: the other one still is", x.of(0, 6), 1);
        Due.is("8: no MOVE", x.count(4), 11);
        Due.is("8: how many are SNAPPED", x.count(1), 1);
        Due.is("8: not SNAPPED any more", x.ties(1), NO);
        Made.move(x, 10, STILL);
        Due.is("8: WORN on", x.of(1, 5), 90);
        Due.is("8: SNAPPED again", x.moves(STILL), 2);
    }

    private static void hungElsewhere() {
        StringPuppets x = heads(1);
        int[] holes = {0, 8, 1, 7, 4};
        int had = 4;
        for (int hole : holes) {
            Due.is("9: which it was", x.hangs(0, hole), had);
            Due.is("9: it is there", x.hangs(0, hole), NO);
            had = hole;
        }
        Due.is("9: no MOVE", x.count(4), 0);
        Due.is("9: not WORN by it", x.of(0, 5), 0);
    }

    private static void undoEightAtMost() {
        StringPuppets x = heads(1);
        Due.is("10: none at first", x.undo(), NO);
        for (int k = 1; k <= 20; k++) {
            x.moves(STILL);
            Due.is("38: that may be undone, 8 at most", x.count(9), Math.min(k, 8));
        }
        for (int k = 19; k >= 12; k--) {
            Due.is("10: the MOVE then", x.undo(), k);
            Due.is("38: one fewer", x.count(9), k - 12);
            Due.is("10: WORN as ahead of it", x.of(0, 5), k);
        }
        Due.is("10: none may be", x.undo(), NO);
        x.moves(UP);
        x.moves(LEFT);
        Due.is("10: again", x.undo(), 13);
        x.moves(RIGHT);
        Due.is("10: the newest", x.undo(), 13);
        Due.is("10: TILT as ahead of it", x.count(3), 0);
        Due.is("10: LIFT behind the one ahead", x.count(2), 23);
        Due.is("10: the one ahead", x.undo(), 12);
        Due.is("10: LIFT as ahead of it", x.count(2), 20);
        Due.is("10: none may be", x.undo(), NO);
    }

    private static void undoEachKind() {
        StringPuppets x = Made.torn(1);
        x.ties(0);
        x.hangs(0, 7);
        x.moves(RIGHT);
        Due.is("10: a MOVE", x.undo(), 11);
        Due.is("10: its TILT", x.count(3), 0);
        Due.is("10: its WORN", x.of(0, 5), 0);
        Due.is("10: hanging is as it was", x.of(0, 4), 7);
        Due.is("10: hanging", x.undo(), 11);
        Due.is("10: its HOLE", x.of(0, 4), 4);
        Due.is("10: tying is as it was", x.of(0, 6), 0);
        Due.is("10: tying", x.undo(), 11);
        Due.is("10: its SNAPPED", x.of(0, 6), 1);
        Due.is("10: its WORN", x.of(0, 5), 99);
        Due.is("10: the MOVE that snapped it", x.undo(), 10);
        Due.is("10: not SNAPPED then", x.of(0, 6), 0);
        Due.is("10: not WORN as far then", x.of(0, 5), 90);
    }

    private static void undoBehindALimb() {
        StringPuppets x = heads(1);
        Made.move(x, 3, STILL);
        x.limb(0, 0, 1, 1, 1);
        Due.is("38: none may be undone", x.count(9), 0);
        Due.is("10: behind a LIMB that comes none may be", x.undo(), NO);
        x.hangs(1, 2);
        Due.is("38: one may be", x.count(9), 1);
        Due.is("10: back to the LIMB", x.undo(), 3);
        Due.is("10: no further", x.undo(), NO);
        Due.is("10: its HOLE", x.of(1, 4), 1);
    }

    private static void undoCountsNothingRefused() {
        StringPuppets x = heads(1);
        x.moves(UP);
        x.moves(5);
        x.ties(0);
        x.hangs(0, 4);
        x.hangs(0, 9);
        x.limb(0, 0, 0, 0, 0);
        Due.is("38: the MOVE alone may be undone", x.count(9), 1);
        Due.is("10: it is", x.undo(), 0);
        Due.is("10: none more", x.undo(), NO);
    }

    private static void undoLeavesTheRest() {
        StringPuppets x = heads(1);
        x.moves(UP);
        x.beat(3, UP, 7);
        x.dance(5);
        x.seen(0, 1, 1, 1);
        x.note(0, 1, 1, 1, 1);
        x.mark(0, 1, 1, 1);
        x.type(65);
        x.slack(0, 0);
        x.undo();
        Due.is("10: the DANCE stays", x.beat(3, UP, 7), UP);
        Due.is("10: the DANCE stays", x.dance(5), 5);
        for (int what : new int[] {6, 7, 8, 10}) {
            Due.is("10: count(" + what + ") stays", x.count(what), 1);
        }
        Due.is("10: THE FRACTION stays", x.part(0), 1);
    }

    private static void imagesKeepAll() {
        for (int i = 0; i <= 1; i++) {
            StringPuppets x = Made.full();
            StringPuppets same = Made.full();
            x.image(i);
            same.image(i);
            x.puppet(3);
            x.limb(5, 5, 5, 5, 5);
            Made.move(x, 12, LEFT);
            x.beat(0, UP, 9);
            x.dance(6);
            Due.is("36: it goes on", x.from(i), 1);
            Due.is("36: all as it was kept", x.digest(), same.digest());
            for (int k = 0; k <= 8; k++) {
                Due.is("36: what may be undone they keep", x.undo(), same.undo());
                Due.is("36: what may be undone they keep", x.digest(), same.digest());
            }
            Due.is("36: the IMAGE is as it was", x.from(i), 1);
            same.from(i);
            Due.is("36: the IMAGE is as it was", x.digest(), same.digest());
            Made.move(x, 1, STILL);
            x.forget(1);
            x.from(i);
            Due.is("36: not changed by what comes behind", x.digest(), same.digest());
        }
    }

    private static void imagesKeepWhatIsToldAnewBehind() {
        for (int i = 0; i <= 1; i++) {
            StringPuppets x = Made.full();
            StringPuppets same = Made.full();
            x.image(i);
            x.puppet(20);
            for (int k = 0; k < 7; k++) {
                x.limb(5 - k % 6, 5 - k % 6, 9 - k, 20 - k, 8 - k);
            }
            for (int k = 0; k < 6; k++) {
                x.seen(6, 20, 60, -40);
                x.note(6, 20, 9, 99, 60);
                x.mark(6, -40, 99, 60);
            }
            for (int t = 0; t < 8; t++) {
                x.beat(t, UP, 60);
            }
            x.from(i);
            Due.is("36: nothing of what came behind", x.digest(), same.digest());
        }
    }

    private static void imagesAreApart() {
        StringPuppets x = heads(1);
        x.image(0);
        x.moves(UP);
        x.image(1);
        x.moves(UP);
        x.from(0);
        Due.is("36: the first", x.count(2), 20);
        x.from(1);
        Due.is("36: the second", x.count(2), 23);
        x.image(0);
        x.moves(UP);
        x.from(0);
        Due.is("35: kept again, in the place of the first", x.count(2), 23);
        Made.write(x, "puppet 1;");
        x.slack(0, 0);
        x.ties(9);
        x.from(1);
        Due.is("36: THE TEXT stays", x.count(10), 9);
        Due.is("36: THE FRACTION stays", x.part(0), 1);
        Due.is("36: STATUS stays", x.status(0), 1);
        x.read();
        x.puppet(5);
        Due.is("36: neither read nor puppet takes an IMAGE", x.from(1), 1);
        Due.is("36: neither read nor puppet takes an IMAGE", x.count(2), 23);
    }

    private static void imagesOfNoLimbs() {
        StringPuppets x = new StringPuppets();
        x.image(1);
        x.limb(0, 0, 1, 1, 1);
        Due.is("36: an empty one", x.from(1), 1);
        Due.is("36: no LIMBS", x.count(0), 0);
        Due.is("3: the first again", x.limb(0, 0, 1, 1, 1), 0);
    }

    private static void puppetMakesAllElseAsAtFirst() {
        StringPuppets x = Made.hung();
        Due.is("2: how many LIMBS there were", x.puppet(0), 3);
        int[] counts = {0, 0, 0, 0, 0, 0, 0, 0, 0, 0, 24};
        for (int k = 0; k < counts.length; k++) {
            Due.is("2: count(" + k + ")", x.count(k), counts[k]);
        }
        Due.is("2: nothing to undo", x.undo(), NO);
        Due.is("2: THE FRACTION stays", x.part(0) * 100 + x.part(1), 710);
        Due.is("2: STATUS stays", x.status(0) * 10 + x.status(1), 12);
        Due.is("2: none there any more", x.puppet(40), 0);
        Due.is("2: LIFT 40", x.count(2), 40);
        x.limb(0, 0, 1, 20, 4);
        x.puppet(20);
        x.limb(0, 0, 1, 20, 4);
        Due.is("2: the DANCE as at first, of LIMB 0, still, 0 HIGH", x.comesOut(), 8);
        Due.is("2: IMAGES stay", x.from(0), 1);
        Due.is("2: IMAGES stay", x.count(4), 3);
        Due.is("2: IMAGES stay", x.from(1), 1);
        Due.is("2: IMAGES stay", x.count(4), 11);
        x = Made.full();
        Due.is("2: seven", x.puppet(20), 7);
        int[] bare = {0, 0, 20, 0, 0, 0, 0, 0, 0, 0, 150};
        for (int k = 0; k < bare.length; k++) {
            Due.is("2: behind a full one count(" + k + ")", x.count(k), bare[k]);
        }
    }

    private static void counts() {
        StringPuppets x = Made.full();
        // limb k weighs k + 1: 3 of these by the first three MOVES, 12 by the other six
        int[] counts = {7, 1, 20, 4, 9, 15 * 21 + 99, 5, 6, 6, 8, 150};
        for (int k = 0; k < counts.length; k++) {
            Due.is("38: count(" + k + ")", x.count(k), counts[k]);
        }
        Made.move(x, 8, LEFT);
        Due.is("38: TILT may be below 0", x.count(3), -4);
    }

    private static long fold(long start, long... values) {
        long h = start;
        for (long v : values) {
            h = 31 * h + v;
        }
        return h;
    }

    private static void digestOfNothing() {
        long counts = fold(1783, 0, 0, 20, 0, 0, 0, 0, 0, 0, 0, 0);
        long beats = fold(counts, 4, 0, 4, 0, 4, 0, 4, 0, 4, 0, 4, 0, 4, 0, 4, 0, 0);
        Due.is("39: of a new object", new StringPuppets().digest(), fold(beats, 0, 1));
    }

    private static void digestOfAll() {
        StringPuppets x = Made.hung();
        x.moves(LEFT);
        x.beat(7, RIGHT, -40);
        x.seen(2, 20, 60, -40);
        x.note(2, 20, 9, 99, 60);
        x.mark(0, -40, 99, 60);
        long h = fold(1783, 3, 1, 23, -1, 12, 99 + 36 + 60, 2, 2, 2, 8, 24);
        h = fold(h, 0, 0, 9, 10, 4, 99, 1);
        h = fold(h, 1, 1, 3, 12, 2, 36, 0);
        h = fold(h, 4, 4, 5, 7, 8, 60, 0);
        h = fold(h, 0, 13, 1, 10, 4, 0, 4, 0, 4, 0, 4, 0, 4, 0, 3, -40, 1);
        h = fold(h, 1, 12, 23, 10, 2, 20, 60, -40);
        h = fold(h, 1, 12, 3, 0, 13, 2, 20, 9, 99, 60);
        h = fold(h, 2, 10, 11, 9, 0, -40, 99, 60);
        Due.is("39: of all that there is", x.digest(), fold(h, 7, 10));
        x.status(9);
        x.undo();
        x.moves(LEFT);
        Due.is("39: not of STATUS, nor of HIGH", x.digest(), fold(h, 7, 10));
    }
}
