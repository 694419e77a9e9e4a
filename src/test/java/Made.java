/** Puppets that tests begin with. */
final class Made {
    /** 24 bytes: two items. */
    static final String SHORT_TEXT = "puppet 7;limb 1 2 3 4 5;";

    private Made() {
    }

    static void write(StringPuppets x, String text) {
        x.clear();
        for (int k = 0; k < text.length(); k++) {
            x.type(text.charAt(k));
        }
    }

    static int read(StringPuppets x, String text) {
        write(x, text);
        return x.read();
    }

    static void move(StringPuppets x, int times, int m) {
        for (int k = 0; k < times; k++) {
            x.moves(m);
        }
    }

    static StringPuppets bar(int lift) {
        StringPuppets x = new StringPuppets();
        x.puppet(lift);
        return x;
    }

    /** A bar with one limb from the middle hole. */
    static StringPuppets one(int lift, int kind, int string, int weight, int length) {
        StringPuppets x = bar(lift);
        x.limb(kind, string, weight, length, 4);
        return x;
    }

    /** So many heads of weight 9 on silk of length 10, from the middle hole, all snapped: MOVE 11, LIFT 20. */
    static StringPuppets torn(int limbs) {
        StringPuppets x = bar(20);
        for (int k = 0; k < limbs; k++) {
            x.limb(0, 0, 9, 10, 4);
        }
        move(x, 11, 4);
        return x;
    }

    /**
     * Three limbs and something in each place that a call might change, with room left: LIFT 23, TILT 0, MOVE 11.
     * Limb 0 is snapped; limb 1, a hand on gut, worn by 33, is 10 high; limb 2, a tail on old gut, worn by 55, is 9.
     */
    static StringPuppets hung() {
        StringPuppets x = bar(20);
        write(x, SHORT_TEXT);
        x.limb(0, 0, 9, 10, 4);
        x.limb(1, 1, 3, 12, 0);
        x.limb(4, 4, 5, 7, 8);
        move(x, 3, 4);
        x.image(0);
        move(x, 7, 4);
        x.moves(0);
        x.hangs(1, 2);
        x.beat(0, 0, 13);
        x.beat(1, 1, 10);
        x.seen(1, 12, 23, 10);
        x.image(1);
        x.note(1, 12, 3, 0, 13);
        x.mark(2, 10, 11, 9);
        x.dance(1);
        x.slack(1, 3);
        x.puppet(41);
        x.ties(1);
        return x;
    }

    /** As many of everything as there may be: 7 limbs, 150 bytes, 5 seen, 6 notes, 6 marks, 8 to undo, both images. */
    static StringPuppets full() {
        StringPuppets x = bar(20);
        for (int k = 0; k < 150; k++) {
            x.type(SHORT_TEXT.charAt(k % SHORT_TEXT.length()));
        }
        for (int k = 0; k < 7; k++) {
            x.limb(k % 6, k % 6, k + 1, 2 * k + 1, k);
        }
        x.image(0);
        move(x, 9, 3);
        for (int k = 0; k < 6; k++) {
            x.seen(k, k + 1, 10 * k, k);
            x.note(k, k + 1, k + 1, 10 * k, 2 * k);
            x.mark(k, k, k, k);
        }
        x.image(1);
        return x;
    }
}
