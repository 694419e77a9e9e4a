/** The edges of THE TEXT: each kind of FAULT that the document lists, at its place, and what just is none. */
public final class EdgesOfTextTest {
    private static final int NO = -1003;
    private static final String LIMB = "limb 0 0 9 1 0;";

    public static void main(String[] args) {
        bytesOfTheText();
        fullTexts();
        emptyTexts();
        endsTooEarly();
        anythingAheadOfPuppet();
        puppetAgain();
        lifts();
        limbNumbers();
        eighthLimb();
        tenthNumber();
        moveNumbers();
        ties();
        hangs();
        wordsThatAreNone();
        semicolonWhereThereIsNone();
        noSemicolonWhereOneIsDue();
        threeFiguresOrMore();
        oneOrTwoFigures();
        bytesThatBeginNone();
        bytesBehindANumber();
        bytesInAWord();
        blanks();
        firstFaultIsTold();
        faultsLeaveAll();
        whatAReadPuppetTakesThePlaceOf();
        itemsDoWhatTheyTell();
        Due.finish();
    }

    private static void items(String text, int items) {
        Due.is("6: '" + text + "'", Made.read(new StringPuppets(), text), items);
    }

    private static void fault(String text, int place) {
        Due.is("6: '" + text + "'", Made.read(new StringPuppets(), text), -10 - place);
    }

    private static String spaces(int n) {
        return " ".repeat(n);
    }

    private static void bytesOfTheText() {
        StringPuppets x = new StringPuppets();
        Due.is("5: an empty one", x.clear(), 0);
        for (int k = 1; k <= 150; k++) {
            Due.is("4: how many it has", x.type(k % 128), k);
        }
        Due.is("4: FULL", x.type(32), -1004);
        Due.is("4: 150 it stays", x.count(10), 150);
        Due.is("5: how many it had", x.clear(), 150);
        Due.is("5: empty", x.count(10), 0);
        Due.is("4: there is room again", x.type(127), 1);
        Due.is("5: one", x.clear(), 1);
    }

    private static void fullTexts() {
        String start = "puppet 20;";
        items(start + spaces(140), 1);
        items(start + spaces(133) + "move 4;", 2);
        items(spaces(140) + start, 1);
        fault(start + spaces(134) + "move 4", 150);
        fault(start + spaces(139) + ";", 149);
        fault(start + spaces(139) + "\t", 149);
        fault(spaces(150), 150);
        fault("z".repeat(150), 0);
        fault("7".repeat(150), 0);
        fault(";".repeat(150), 0);
        // what an earlier, longer text held behind the end of this one is not of it
        StringPuppets x = new StringPuppets();
        Made.write(x, "puppet 20;move 4;");
        Due.is("6: not what stood behind its end", Made.read(x, "puppet 20"), -10 - 9);
        Made.write(x, "puppet 12;");
        Due.is("6: not a figure behind its end", Made.read(x, "puppet 1"), -10 - 8);
    }

    private static void emptyTexts() {
        fault("", 0);
        fault(" ", 1);
        fault("   ", 3);
        StringPuppets x = new StringPuppets();
        Due.is("6: never written", x.read(), -10);
        Made.write(x, "puppet 20;");
        x.clear();
        Due.is("6: emptied", x.read(), -10);
    }

    private static void endsTooEarly() {
        fault("puppet", 6);
        fault("puppet ", 7);
        fault("puppet 2", 8);
        fault("puppet 20", 9);
        fault("puppet 20  ", 11);
        items("puppet 20;", 1);
        String[] starts = {"limb", "limb 0", "limb 0 0", "limb 0 0 1", "limb 0 0 1 1", "limb 0 0 1 1 0", "move", "move 0",
            "move 0 1 2 3 4 0 1 2 3", LIMB + "hang", LIMB + "hang 0", LIMB + "hang 0 0", LIMB + "tie",
            LIMB + "move 3 3 3 3 3 3 3;tie 0"};
        for (String start : starts) {
            fault("puppet 20;" + start, 10 + start.length());
            fault("puppet 20;" + start + "  ", 12 + start.length());
        }
    }

    private static void anythingAheadOfPuppet() {
        fault("limb 0 0 1 1 0;puppet 20;", 0);
        fault("move 4;puppet 20;", 0);
        fault(" tie 0;puppet 20;", 1);
        fault("hang 0 0;puppet 20;", 0);
        fault("20;puppet 20;", 0);
        fault("  ;puppet 20;", 2);
        fault("!puppet 20;", 0);
        items("  puppet 20;", 1);
    }

    private static void puppetAgain() {
        fault("puppet 20;puppet 20;", 10);
        fault("puppet 20;" + LIMB + "  puppet 20;", 27);
        fault("puppet puppet 20;", 7);
        fault("puppet 20 puppet 20;", 10);
    }

    private static void lifts() {
        StringPuppets x = new StringPuppets();
        Due.is("6: LIFT 0", Made.read(x, "puppet 0;"), 1);
        Due.is("6: LIFT 0", x.count(2), 0);
        Due.is("6: LIFT 40", Made.read(x, "puppet 40;"), 1);
        Due.is("6: LIFT 40", x.count(2), 40);
        fault("puppet 41;", 7);
        fault("puppet 99;", 7);
    }

    private static void limbNumbers() {
        String p = "puppet 20;limb ";
        items(p + "0 0 1 1 0;", 2);
        items(p + "5 5 9 20 8;", 2);
        fault(p + "6 0 1 1 0;", 15);
        fault(p + "0 6 1 1 0;", 17);
        fault(p + "0 0 0 1 0;", 19);
        fault(p + "0 0 10 1 0;", 19);
        fault(p + "0 0 1 0 0;", 21);
        fault(p + "0 0 1 21 0;", 21);
        fault(p + "0 0 1 1 9;", 23);
        fault(p + "0 0 1 1;", 22);
        fault(p + ";", 15);
        fault(p + "0 0 1 1 0 0;", 25);
        StringPuppets x = new StringPuppets();
        Made.read(x, p + "5 4 9 20 8;");
        int[] told = {5, 4, 9, 20, 8, 0, 0};
        for (int what = 0; what < told.length; what++) {
            Due.is("6: of(0, " + what + ")", x.of(0, what), told[what]);
        }
    }

    private static void eighthLimb() {
        String seven = "puppet 9;" + "limb 0 0 1 1 0;".repeat(7);
        items(seven, 8);
        items(seven + "move 4;", 9);
        fault(seven + "limb 0 0 1 1 0;", 114);
        fault(seven + " limb", 115);
        fault(seven + "limb;", 114);
        StringPuppets x = new StringPuppets();
        Made.read(x, seven);
        Due.is("6: seven", x.count(0), 7);
    }

    private static void tenthNumber() {
        items("puppet 20;move 0;", 2);
        items("puppet 20;move 0 1 2 3 4 0 1 2 3;", 2);
        fault("puppet 20;move 0 1 2 3 4 0 1 2 3 4;", 33);
        fault("puppet 20;move 0 1 2 3 4 0 1 2 3 9;", 33);
        fault("puppet 20;move;", 14);
        fault("puppet 20;move ;", 15);
        StringPuppets x = new StringPuppets();
        Made.read(x, "puppet 20;move 0 1 2 3 4 0 1 2 3;");
        Due.is("6: nine MOVES", x.count(4), 9);
    }

    private static void moveNumbers() {
        items("puppet 20;move 4 0 4;", 2);
        fault("puppet 20;move 5;", 15);
        fault("puppet 20;move 4 5;", 17);
        fault("puppet 20;move 10;", 15);
        fault("puppet 20;move -1;", 15);
        items("puppet 20;move 00 04;", 2);
    }

    private static void ties() {
        String torn = "puppet 20;" + LIMB + "move 3 3 3 3 3 3 3;";
        items(torn + "tie 0;", 4);
        fault(torn + "tie 1;", 48);
        fault(torn + "tie 0;tie 0;", 54);
        fault(torn + "tie;", 47);
        fault(torn + "tie 0 0;", 50);
        fault("puppet 20;tie 0;", 14);
        fault("puppet 20;tie 0;" + LIMB, 14);
        // 27 behind three, 45, 63, 81 behind six: one MOVE less than it takes
        fault("puppet 20;" + LIMB + "move 3 3 3 3 3 3;tie 0;", 46);
        StringPuppets x = new StringPuppets();
        Made.read(x, "puppet 20;" + LIMB + LIMB + "move 3 3 3 3 3 3 3;");
        Due.is("6: the second LIMB was another puppet's", Made.read(x, "puppet 20;" + LIMB + "tie 1;"), -10 - 29);
        Due.is("6: the second LIMB was another puppet's", Made.read(x, torn + "hang 1 1;"), -10 - 49);
        Made.read(x, torn + "tie 0;");
        Due.is("6: SNAPPED no more", x.of(0, 6), 0);
        Due.is("6: WORN by 0", x.of(0, 5), 0);
    }

    private static void hangs() {
        String p = "puppet 20;limb 0 0 9 1 4;";
        items(p + "hang 0 0;", 3);
        items(p + "hang 0 8;", 3);
        fault(p + "hang 0 9;", 32);
        fault(p + "hang 1 0;", 30);
        fault(p + "hang;", 29);
        fault(p + "hang 0;", 31);
        fault(p + "hang 0 1 2;", 34);
        fault("puppet 20;hang 0 0;" + LIMB, 15);
        // the list of faults does not name a limb that hangs there already
        items(p + "hang 0 4;", 3);
        StringPuppets x = new StringPuppets();
        Made.read(x, p + LIMB + "hang 1 8;");
        Due.is("6: the other one stays", x.of(0, 4), 4);
        Due.is("6: hung in 8", x.of(1, 4), 8);
    }

    private static void wordsThatAreNone() {
        String[] words = {"a", "z", "lim", "limbs", "mov", "moves", "ti", "ties", "han", "hangs", "puppe", "puppets",
            "bmil", "himb", "lomb", "lilb", "limp", "love", "mive", "mode", "mova", "die", "tee", "tin", "bang", "hung", "hand",
            "muppet", "puppat", "pupped"};
        for (String word : words) {
            fault("puppet 20;" + word + " 0;", 10);
            fault(word + " 20;", 0);
        }
        fault("puppet 20;Limb 0 0 1 1 0;", 10);
        fault("puppet limb;", 7);
        fault("puppet 20 limb;", 10);
        fault("puppet 20;limb 0 x 1 1 0;", 17);
        fault("puppet 20;move 0 move 0;", 17);
    }

    private static void semicolonWhereThereIsNone() {
        fault(";", 0);
        fault("puppet;", 6);
        fault("puppet ;", 7);
        fault("puppet 20;;", 10);
        fault("puppet 20; ;", 11);
        fault("puppet 20;limb 0 0;", 18);
        fault("puppet 20;limb 0;0 1 1 0;", 16);
    }

    private static void noSemicolonWhereOneIsDue() {
        fault("puppet 20 20;", 10);
        fault("puppet 20 move 4;", 10);
        fault("puppet 20;move 4 limb 0 0 1 1 0;", 17);
        fault("puppet 20;limb 0 0 1 1 0 move 4;", 25);
        fault("puppet 20:", 9);
    }

    private static void threeFiguresOrMore() {
        fault("puppet 020;", 7);
        fault("puppet 000;", 7);
        fault("puppet 0020;", 7);
        fault("puppet 20;limb 000 0 1 1 0;", 15);
        fault("puppet 20;move 4 004;", 17);
        fault("puppet 20 123;", 10);
        fault("puppet 20;123", 10);
        fault("123", 0);
    }

    private static void oneOrTwoFigures() {
        StringPuppets x = new StringPuppets();
        Due.is("6: two are one number", Made.read(x, "puppet 07;limb 00 05 09 08 07;move 01;"), 3);
        Due.is("6: 07", x.count(2), 4);
        int[] told = {0, 5, 9, 8, 7};
        for (int what = 0; what < told.length; what++) {
            Due.is("6: of(0, " + what + ")", x.of(0, what), told[what]);
        }
        fault("puppet 1 2;", 9);
        Due.is("6: 19", Made.read(x, "puppet 19;"), 1);
        Due.is("6: 19", x.count(2), 19);
        Due.is("6: 9", Made.read(x, "puppet 9;"), 1);
        Due.is("6: 9", x.count(2), 9);
    }

    /** A blank alone may stand where an item begins; figures, ; and words of one letter can not, either. */
    private static void bytesThatBeginNone() {
        for (int c = 0; c <= 127; c++) {
            String text = "puppet 20;" + (char) c;
            if (c == 32) {
                items(text, 1);
            } else {
                fault(text, 10);
            }
        }
    }

    /** "puppet 2", the byte, "0;". */
    private static void bytesBehindANumber() {
        for (int c = 0; c <= 127; c++) {
            boolean figure = c >= '0' && c <= '9';
            int place = figure ? 7 : c == ' ' || c == ';' ? 9 : 8;
            fault("puppet 2" + (char) c + "0;", place);
        }
    }

    /** "pup", the byte, "pet 20;": whatever it is, the word is another; ahead of the number it may be a blank. */
    private static void bytesInAWord() {
        for (int c = 0; c <= 127; c++) {
            fault("pup" + (char) c + "pet 20;", 0);
            boolean letter = c >= 'a' && c <= 'z';
            String text = "puppet" + (char) c + "20;";
            if (c == ' ') {
                items(text, 1);
            } else {
                fault(text, letter ? 0 : 6);
            }
        }
    }

    private static void blanks() {
        items("   puppet   20   ;   limb  0  0  1  1  0  ;  move  4  ;   ", 3);
        items("puppet20;limb0 0 1 1 0;move4;hang0 1;", 4);
        fault("pup pet 20;", 0);
        fault("puppet 2 0;", 9);
        fault("puppet\t20;", 6);
        fault("puppet\n20;", 6);
    }

    private static void firstFaultIsTold() {
        fault("puppet 41;limb 9 9 9 99 9;!", 7);
        fault("puppet 20;limb 0 0 1 21 9;puppet", 21);
        fault("puppet 20;!puppet 41", 10);
        fault("puppet 99", 7);
    }

    private static StringPuppets withText(String text) {
        StringPuppets x = Made.hung();
        Made.write(x, text);
        return x;
    }

    private static void faultsLeaveAll() {
        String[] texts = {"puppet 3;limb 5 5 5 5 5;move 1 2 3;!", "puppet 3;" + LIMB + LIMB + LIMB + LIMB + "hang 3 1;tie 0;",
            "puppet 3;move 0 1 2 3 4 5;", "puppet 3;limb 1 1 1 1 1", "puppet 3"};
        int[] faults = {35, 82, 24, 23, 8};
        for (int k = 0; k < texts.length; k++) {
            String text = texts[k];
            Twins.unchanged("6: all stays", () -> withText(text), x -> x.read(), -10 - faults[k]);
        }
    }

    private static void whatAReadPuppetTakesThePlaceOf() {
        StringPuppets x = Made.hung();
        StringPuppets same = Made.hung();
        Due.is("6: read", x.read(), 2);
        int[] counts = {1, 0, 7, 0, 0, 0, 0, 0, 0, 0, 24};
        for (int k = 0; k < counts.length; k++) {
            Due.is("6: count(" + k + ")", x.count(k), counts[k]);
        }
        Due.is("6: THE FRACTION stays", x.part(0) * 100 + x.part(1), 710);
        for (int k = 0; k < 3; k++) {
            Due.is("6: STATUS stays", x.status(k), same.status(k));
        }
        Due.is("6: nothing to undo", x.undo(), NO);
        Due.is("6: the DANCE as at first", x.dance(0), 0);
        // a hand at 2, or so: all beats tell 0
        Due.is("6: the DANCE as at first", x.comesOut(), 0);
        for (int t = 0; t < 8; t++) {
            Due.is("6: the DANCE as at first", x.beat(t, 4, 2), 4);
        }
        Due.is("6: what the LIMB does now", x.comesOut(), 8);
        Due.is("6: read again", x.read(), 2);
        for (int k = 0; k <= 1; k++) {
            Due.is("6: IMAGES stay", x.from(k), same.from(k));
            Due.is("6: IMAGES stay", x.digest(), same.digest());
        }
        Due.is("6: what may be undone is the IMAGE's", x.undo(), same.undo());
        x = Made.full();
        Due.is("6: read", Made.read(x, "puppet 40;"), 1);
        int[] bare = {0, 0, 40, 0, 0, 0, 0, 0, 0, 0, 10};
        for (int k = 0; k < bare.length; k++) {
            Due.is("6: behind a full one count(" + k + ")", x.count(k), bare[k]);
        }
        // at first all beats tell 0: a head that is 0 high comes out eight times
        Due.is("6: how HIGH as at first", Made.read(x, "puppet 20;limb 0 0 1 20 4;"), 2);
        Due.is("6: how HIGH as at first", x.comesOut(), 8);
    }

    private static void itemsDoWhatTheyTell() {
        StringPuppets x = new StringPuppets();
        Due.is("6: five items", Made.read(x, "puppet 38;limb 0 0 2 5 8;move 0 0 3;limb 1 1 3 6 0;move 2 2;"), 5);
        Due.is("6: LIFT 40 at most", x.count(2), 40);
        Due.is("6: TILT", x.count(3), -1);
        Due.is("6: the MOVE", x.count(4), 5);
        Due.is("6: WORN by five MOVES", x.of(0, 5), 10);
        Due.is("6: WORN by two MOVES", x.of(1, 5), 6);
        Due.is("6: HIGH", x.of(0, 7), 40 - 4 - 5);
        Due.is("6: HIGH", x.of(1, 7), 40 + 4 - 7);
        Due.is("6: a MOVE behind it may be undone", x.moves(4), 0);
        Due.is("6: a MOVE behind it may be undone", x.undo(), 5);
        Due.is("6: no more than that", x.undo(), NO);
        Made.read(x, "puppet 20;" + LIMB + "move 2 2 2 2 2 2 2;");
        Due.is("6: SNAPPED", x.count(1), 1);
    }
}
