/**
 * A marionette, its strings and its bar. All rows are made with the object, so
 * that no call makes anything; every look ahead runs on a spare pose, so that
 * the puppet itself stays as it is.
 */
public final class StringPuppets {
    public static final int NONE = -1001, BAD = -1002, NO = -1003, FULL = -1004;

    private static final int NONE_SUCH = -6;
    private static final int NOT_SO_MANY = -5;
    private static final int BAD_IN_LISTS = -10;
    private static final int BEFORE_FAULT = -10;

    private static final int MOST_LIMBS = 7;
    private static final int ALL_KINDS = 6;
    private static final int LAST_HOLE = 8;
    private static final int MIDDLE_HOLE = 4;
    private static final int MOST_WEIGHT = 9;
    private static final int MOST_LENGTH = 20;
    private static final int MOST_WORN = 99;
    private static final int MOST_LIFT = 40;
    private static final int FIRST_LIFT = 20;
    private static final int MOST_TILT = 4;
    private static final int LOWEST_TOLD = -40;
    private static final int HIGHEST_TOLD = 60;
    private static final int HIGH_OF_SNAPPED = -20;

    private static final int UP = 0;
    private static final int DOWN = 1;
    private static final int LEFT = 2;
    private static final int RIGHT = 3;
    private static final int STILL = 4;
    private static final int ALL_MOVES = 5;
    private static final int LAST_MOVE = 9999;

    private static final int MOST_TEXT = 150;
    private static final int MOST_UNDONE = 8;
    private static final int BEATS = 8;
    private static final int MOST_SEEN = 5;
    private static final int MOST_NOTES = 6;
    private static final int MOST_MARKS = 6;
    private static final int MOST_SAFE = 60;
    private static final int LONGEST_ROW = 5;
    private static final int MOST_SLACK = 6;
    private static final int TENTHS = 10;
    private static final int MOST_SEED = 999999;
    private static final int MOST_SHOWS = 60;
    private static final int TOLD_HOLE = 30;

    private final Puppet now = new Puppet();
    private final Puppet draft = new Puppet();
    private final Puppet firstImage = new Puppet();
    private final Puppet secondImage = new Puppet();
    private boolean firstKept = false;
    private boolean secondKept = false;

    private final Reader reader = new Reader();
    private final Search search = new Search();
    private final Bargain bargain = new Bargain();
    private final Pose trial = new Pose();
    private final int[] crowd = new int[MOST_WEIGHT];

    private long above = 0;
    private long below = 1;
    private int badCalls = 0;
    private int noCalls = 0;
    private int fullCalls = 0;

    public StringPuppets() {
    }

    // ---- a puppet

    public int puppet(int lift) {
        if (outside(lift, 0, MOST_LIFT)) {
            return refuseBad(BAD);
        }
        int had = now.size;
        now.begin(lift);
        return had;
    }

    public int limb(int kind, int string, int weight, int length, int hole) {
        if (outside(kind, 0, ALL_KINDS - 1) || outside(string, 0, ALL_KINDS - 1)
                || outside(weight, 1, MOST_WEIGHT) || outside(length, 1, MOST_LENGTH)
                || outside(hole, 0, LAST_HOLE)) {
            return refuseBad(BAD);
        }
        if (now.size >= MOST_LIMBS) {
            return refuseFull();
        }
        return now.add(kind, string, weight, length, hole);
    }

    public int type(int c) {
        if (outside(c, 0, 127)) {
            return refuseBad(BAD);
        }
        if (reader.length >= MOST_TEXT) {
            return refuseFull();
        }
        return reader.append(c);
    }

    public int clear() {
        int had = reader.length;
        reader.length = 0;
        return had;
    }

    public int read() {
        int items = reader.readInto(draft);
        if (items >= 0) {
            now.become(draft);
        }
        return items;
    }

    // ---- moves

    public int moves(int m) {
        if (outside(m, 0, ALL_MOVES - 1)) {
            return refuseBad(BAD);
        }
        if (now.pose.move >= LAST_MOVE) {
            return refuseNo();
        }
        now.remember();
        now.step(now.pose, m);
        return now.snappedIn(now.pose);
    }

    public int ties(int i) {
        if (noLimb(i)) {
            return refuseBad(BAD);
        }
        if (!isSnapped(now.wornOf(i))) {
            return refuseNo();
        }
        int had = now.wornOf(i);
        now.remember();
        put(now.pose.worn, i, 0);
        return had;
    }

    public int hangs(int i, int x) {
        if (noLimb(i) || outside(x, 0, LAST_HOLE)) {
            return refuseBad(BAD);
        }
        int had = now.holeOf(i);
        if (had == x) {
            return refuseNo();
        }
        now.remember();
        put(now.pose.holes, i, x);
        return had;
    }

    public int undo() {
        if (now.undoable <= 0) {
            return refuseNo();
        }
        now.goBack();
        return now.pose.move;
    }

    public int of(int i, int what) {
        if (noLimb(i) || outside(what, 0, 7)) {
            return refuseBad(BAD);
        }
        return now.tellOf(i, what);
    }

    // ---- how high

    public int touch(int k) {
        if (k < -1) {
            return refuseBad(BAD_IN_LISTS);
        }
        int found = 0;
        for (int i = 0; i < now.size; i++) {
            for (int j = i + 1; j < now.size; j++) {
                if (touching(i, j)) {
                    if (found == k) {
                        return 10 * i + j;
                    }
                    found++;
                }
            }
        }
        return k == -1 ? found : NOT_SO_MANY;
    }

    public int safe(int i) {
        if (noLimb(i)) {
            return refuseBad(BAD);
        }
        int worn = now.wornOf(i);
        for (int n = 0; n <= MOST_SAFE; n++) {
            if (isSnapped(worn)) {
                return n;
            }
            worn = wornBehind(worn, now.weightOf(i), now.pose.tilt);
        }
        return NONE;
    }

    public int few(int i, int x, int k) {
        if (noLimb(i) || notHigh(x) || k < -1) {
            return refuseBad(BAD_IN_LISTS);
        }
        int length = search.fewest(now, i, x, i, x);
        if (length < 0) {
            return NONE_SUCH;
        }
        if (k == -1) {
            return length;
        }
        return k < length ? cell(search.row, k) : NOT_SO_MANY;
    }

    public int both(int i, int x, int j, int y) {
        if (noLimb(i) || notHigh(x) || noLimb(j) || notHigh(y) || i == j) {
            return refuseBad(BAD);
        }
        int length = search.fewest(now, i, x, j, y);
        return length < 0 ? NONE : length;
    }

    public int hole(int i, int x, int what) {
        if (noLimb(i) || notHigh(x) || outside(what, 0, 1)) {
            return refuseBad(BAD);
        }
        int best = 0;
        int nearest = farFrom(i, x, 0);
        for (int candidate = 1; candidate <= LAST_HOLE; candidate++) {
            int far = farFrom(i, x, candidate);
            if (far < nearest) {
                best = candidate;
                nearest = far;
            }
        }
        return what == 0 ? best : nearest;
    }

    public int beat(int t, int m, int x) {
        if (outside(t, 0, BEATS - 1) || outside(m, 0, ALL_MOVES - 1) || notHigh(x)) {
            return refuseBad(BAD);
        }
        int had = cell(now.danceMoves, t);
        put(now.danceMoves, t, m);
        put(now.danceHighs, t, x);
        return had;
    }

    public int dance(int i) {
        if (outside(i, 0, MOST_LIMBS - 1)) {
            return refuseBad(BAD);
        }
        int had = now.dancer;
        now.dancer = i;
        return had;
    }

    public int comesOut() {
        if (noLimb(now.dancer)) {
            return 0;
        }
        int right = 0;
        trial.become(now.pose);
        for (int t = 0; t < BEATS; t++) {
            now.step(trial, cell(now.danceMoves, t));
            if (now.highIn(trial, now.dancer) == cell(now.danceHighs, t)) {
                right++;
            }
        }
        return right;
    }

    public int snaps() {
        trial.become(now.pose);
        int snapped = now.snappedIn(trial);
        for (int t = 0; t < BEATS; t++) {
            now.step(trial, cell(now.danceMoves, t));
            if (now.snappedIn(trial) > snapped) {
                return t;
            }
        }
        return NONE;
    }

    // ---- how heavy

    public int seen(int i, int l, int g, int x) {
        if (noLimb(i) || outside(l, 1, MOST_LENGTH) || outside(g, 0, HIGHEST_TOLD) || notHigh(x)) {
            return refuseBad(BAD);
        }
        if (now.sights.isFull()) {
            return refuseFull();
        }
        return now.sights.append(i, l, g, x, 0);
    }

    public int heavy(int i, int what) {
        if (noLimb(i) || outside(what, 0, 2)) {
            return refuseBad(BAD);
        }
        int weights = fittingWeights(i);
        if (what == 0) {
            return Integer.bitCount(weights);
        }
        if (weights == 0) {
            return NONE;
        }
        return what == 1 ? leastBit(weights) : greatestBit(weights);
    }

    public int tell(int i) {
        if (noLimb(i)) {
            return refuseBad(BAD);
        }
        int weights = fittingWeights(i);
        if (weights == 0) {
            return NONE;
        }
        int best = 1;
        int fewest = alikeByLength(i, weights, 1);
        for (int length = 2; length <= MOST_LENGTH; length++) {
            int alike = alikeByLength(i, weights, length);
            if (alike < fewest) {
                best = length;
                fewest = alike;
            }
        }
        return best;
    }

    public int note(int i, int l, int w, int n, int x) {
        if (noLimb(i) || outside(l, 1, MOST_LENGTH) || outside(w, 1, MOST_WEIGHT)
                || outside(n, 0, MOST_WORN) || outside(x, 0, HIGHEST_TOLD)) {
            return refuseBad(BAD);
        }
        if (now.notes.isFull()) {
            return refuseFull();
        }
        return now.notes.append(i, l, w, n, x);
    }

    public int mark(int i, int h, int t, int x) {
        if (noLimb(i) || notHigh(h) || outside(t, 0, 99) || notHigh(x)) {
            return refuseBad(BAD);
        }
        if (now.marks.isFull()) {
            return refuseFull();
        }
        return now.marks.append(i, h, t, x, 0);
    }

    public int forget(int what) {
        switch (what) {
            case 0:
                return now.sights.drain();
            case 1:
                return now.notes.drain();
            case 2:
                return now.marks.drain();
            default:
                return refuseBad(BAD);
        }
    }

    public int is(int i) {
        if (noLimb(i)) {
            return refuseBad(BAD);
        }
        return fittingStrings(i);
    }

    public int look(int i) {
        if (noLimb(i)) {
            return refuseBad(BAD);
        }
        int strings = fittingStrings(i);
        if (strings == 0) {
            return NONE;
        }
        int best = NONE;
        int fewest = ALL_KINDS + 1;
        for (int weight = 1; weight <= MOST_WEIGHT; weight++) {
            for (int length = 1; length <= MOST_LENGTH; length++) {
                int alike = alikeByDrop(strings, length, weight, now.wornOf(i));
                if (alike < fewest) {
                    best = 100 * weight + length;
                    fewest = alike;
                }
            }
        }
        return best;
    }

    public int kinds(int i) {
        if (noLimb(i)) {
            return refuseBad(BAD);
        }
        return fittingKinds(i);
    }

    public int ask(int i) {
        if (noLimb(i)) {
            return refuseBad(BAD);
        }
        int fitting = fittingKinds(i);
        if (fitting == 0) {
            return NONE;
        }
        int best = NONE;
        int fewest = ALL_KINDS + 1;
        for (int h = 0; h <= 20; h++) {
            for (int t = 0; t <= 1; t++) {
                int alike = alikeByHigh(fitting, h, t);
                if (alike < fewest) {
                    best = 10 * h + t;
                    fewest = alike;
                }
            }
        }
        return best;
    }

    public int hands(int a, int b, int k) {
        if (noLimb(a) || noLimb(b) || a == b || k < -1) {
            return refuseBad(BAD_IN_LISTS);
        }
        bargain.weigh(now, trial, a, b);
        int found = 0;
        for (int i = 0; i < ALL_MOVES; i++) {
            for (int j = 0; j < ALL_MOVES; j++) {
                if (bargain.rests(i, j)) {
                    if (found == k) {
                        return 10 * i + j;
                    }
                    found++;
                }
            }
        }
        return k == -1 ? found : NOT_SO_MANY;
    }

    public int slack(int n, int c) {
        if (outside(n, 0, MOST_SLACK) || outside(c, 0, TENTHS)) {
            return refuseBad(BAD);
        }
        long whole = 1;
        for (int t = 0; t < n; t++) {
            whole *= TENTHS;
        }
        setFraction(n == 0 ? 1 : chanceOfSlack(n, c), whole);
        return 1;
    }

    public int nights(int seed, int n) {
        if (outside(seed, 0, MOST_SEED) || outside(n, 0, MOST_SHOWS)) {
            return refuseBad(BAD);
        }
        long x = seed;
        trial.become(now.pose);
        for (int show = 0; show < n; show++) {
            x = (x * 1103515245L + 12345L) % 2147483648L;
            now.step(trial, (int) (x / 65536L % ALL_MOVES));
        }
        return now.snappedIn(trial);
    }

    // ---- what there is

    public long part(int what) {
        if (outside(what, 0, 1)) {
            return refuseBad(BAD);
        }
        return what == 0 ? above : below;
    }

    public int image(int i) {
        if (outside(i, 0, 1)) {
            return refuseBad(BAD);
        }
        if (i == 0) {
            firstImage.become(now);
            firstKept = true;
        } else {
            secondImage.become(now);
            secondKept = true;
        }
        return 1;
    }

    public int from(int i) {
        if (outside(i, 0, 1)) {
            return refuseBad(BAD);
        }
        boolean kept = i == 0 ? firstKept : secondKept;
        if (!kept) {
            return refuseNo();
        }
        now.become(i == 0 ? firstImage : secondImage);
        return 1;
    }

    public int status(int what) {
        switch (what) {
            case 0:
                return badCalls;
            case 1:
                return noCalls;
            case 2:
                return fullCalls;
            default:
                return refuseBad(-1);
        }
    }

    public int count(int what) {
        if (outside(what, 0, 10)) {
            return refuseBad(BAD);
        }
        return counted(what);
    }

    public long digest() {
        long h = 1783;
        for (int what = 0; what <= 10; what++) {
            h = 31 * h + counted(what);
        }
        for (int i = 0; i < now.size; i++) {
            for (int what = 0; what <= 6; what++) {
                h = 31 * h + now.tellOf(i, what);
            }
        }
        for (int t = 0; t < BEATS; t++) {
            h = 31 * h + cell(now.danceMoves, t);
            h = 31 * h + cell(now.danceHighs, t);
        }
        h = 31 * h + now.dancer;
        h = now.sights.digestOn(h);
        h = now.notes.digestOn(h);
        h = now.marks.digestOn(h);
        h = 31 * h + above;
        return 31 * h + below;
    }

    // ---- refusals and tests of arguments

    private int refuseBad(int answer) {
        badCalls++;
        return answer;
    }

    private int refuseNo() {
        noCalls++;
        return NO;
    }

    private int refuseFull() {
        fullCalls++;
        return FULL;
    }

    private boolean noLimb(int i) {
        return outside(i, 0, now.size - 1);
    }

    private static boolean notHigh(int x) {
        return outside(x, LOWEST_TOLD, HIGHEST_TOLD);
    }

    private static boolean outside(int number, int least, int most) {
        return number < least || number > most;
    }

    // ---- rows

    private static int cell(int[] row, int at) {
        return at >= 0 && at < row.length ? row[at] : 0;
    }

    private static void put(int[] row, int at, int value) {
        if (at >= 0 && at < row.length) {
            row[at] = value;
        }
    }

    private static void copyRow(int[] source, int[] target) {
        for (int at = 0; at < source.length && at < target.length; at++) {
            target[at] = source[at];
        }
    }

    private static boolean hasBit(int bits, int bit) {
        return (bits >> bit & 1) == 1;
    }

    private static int leastBit(int bits) {
        int bit = 0;
        while (bit < 31 && !hasBit(bits, bit)) {
            bit++;
        }
        return bit;
    }

    private static int greatestBit(int bits) {
        int bit = 31;
        while (bit > 0 && !hasBit(bits, bit)) {
            bit--;
        }
        return bit;
    }

    /** Of the first so many of a row: how often the one stands there that stands there most. */
    private static int mostAlike(int[] row, int length) {
        int most = 0;
        for (int i = 0; i < length && i < row.length; i++) {
            int alike = 0;
            for (int j = 0; j < length && j < row.length; j++) {
                if (row[i] == row[j]) {
                    alike++;
                }
            }
            most = Math.max(most, alike);
        }
        return most;
    }

    // ---- how strings drop, limbs hang, and the bar moves

    private static int dropOf(int string, int length, int weight, int worn) {
        int gut = length + weight / 3;
        int elastic = length + weight;
        switch (string) {
            case 1:
                return gut;
            case 2:
                return elastic;
            case 3:
                return length % 2 == 0 ? length - 1 : length;
            case 4:
                return gut + worn / 10;
            case 5:
                return Math.min(elastic, 2 * length);
            default:
                return length;
        }
    }

    private static int highOf(int kind, int h, int move) {
        int hand = Math.max(h, 2);
        int foot = Math.max(0, Math.min(h, 9));
        switch (kind) {
            case 1:
                return hand;
            case 2:
                return foot;
            case 3:
                return foot / 2;
            case 4:
                return move % 2 == 0 ? h : h - 1;
            case 5:
                return hand + 3;
            default:
                return h;
        }
    }

    private static int liftBehind(int lift, int m) {
        if (m == UP) {
            return Math.min(lift + 3, MOST_LIFT);
        }
        return m == DOWN ? Math.max(lift - 3, 0) : lift;
    }

    private static int tiltBehind(int tilt, int m) {
        if (m == LEFT) {
            return Math.max(tilt - 1, -MOST_TILT);
        }
        return m == RIGHT ? Math.min(tilt + 1, MOST_TILT) : tilt;
    }

    private static int wornBehind(int worn, int weight, int tilt) {
        boolean steep = tilt == MOST_TILT || tilt == -MOST_TILT;
        return Math.min(worn + (steep ? 2 * weight : weight), MOST_WORN);
    }

    /** A string snaps just as it comes to be worn most, and tying it anew takes both away: one number tells both. */
    private static boolean isSnapped(int worn) {
        return worn >= MOST_WORN;
    }

    // ---- looks at the puppet

    private int counted(int what) {
        switch (what) {
            case 0:
                return now.size;
            case 1:
                return now.snappedIn(now.pose);
            case 2:
                return now.pose.lift;
            case 3:
                return now.pose.tilt;
            case 4:
                return now.pose.move;
            case 5:
                return now.wornTogether();
            case 6:
                return now.sights.size;
            case 7:
                return now.notes.size;
            case 8:
                return now.marks.size;
            case 9:
                return now.undoable;
            default:
                return reader.length;
        }
    }

    private boolean touching(int i, int j) {
        return !isSnapped(now.wornOf(i)) && !isSnapped(now.wornOf(j))
                && now.highIn(now.pose, i) == now.highIn(now.pose, j);
    }

    private int farFrom(int i, int x, int hole) {
        int from = holeAt(now.pose.lift, now.pose.tilt, hole);
        return Math.abs(now.highFrom(i, from, now.wornOf(i), now.pose.move) - x);
    }

    private static int holeAt(int lift, int tilt, int hole) {
        return lift + tilt * (hole - MIDDLE_HOLE);
    }

    /** How many of the chances, ten to the n-th in all, end at the height that the n-th beat tells. */
    private long chanceOfSlack(int n, int c) {
        if (noLimb(now.dancer)) {
            return 0;
        }
        int goal = cell(now.danceHighs, n - 1);
        long sum = 0;
        for (int slackBeats = 0; slackBeats < 1 << n; slackBeats++) {
            long chance = 1;
            trial.become(now.pose);
            for (int t = 0; t < n; t++) {
                boolean slackened = hasBit(slackBeats, t);
                chance *= slackened ? c : TENTHS - c;
                now.step(trial, slackened ? STILL : cell(now.danceMoves, t));
            }
            if (now.highIn(trial, now.dancer) == goal) {
                sum += chance;
            }
        }
        return sum;
    }

    private void setFraction(long numerator, long denominator) {
        long divisor = denominator;
        long rest = numerator;
        for (int n = 0; n < 100 && rest != 0; n++) {
            long left = divisor % rest;
            divisor = rest;
            rest = left;
        }
        if (divisor > 0) {
            above = numerator / divisor;
            below = denominator / divisor;
        }
    }

    // ---- what fits all that was seen, noted, marked, as bits

    private int fittingWeights(int i) {
        int fitting = 0;
        for (int weight = 1; weight <= MOST_WEIGHT; weight++) {
            if (fitsSights(i, weight)) {
                fitting |= 1 << weight;
            }
        }
        return fitting;
    }

    private boolean fitsSights(int i, int weight) {
        Table sights = now.sights;
        for (int n = 0; n < sights.size; n++) {
            if (sights.value(n, 0) == i
                    && freshHigh(i, sights.value(n, 1), weight, sights.value(n, 2)) != sights.value(n, 3)) {
                return false;
            }
        }
        return true;
    }

    private int fittingStrings(int i) {
        int fitting = 0;
        for (int string = 0; string < ALL_KINDS; string++) {
            if (fitsNotes(i, string)) {
                fitting |= 1 << string;
            }
        }
        return fitting;
    }

    private boolean fitsNotes(int i, int string) {
        Table notes = now.notes;
        for (int n = 0; n < notes.size; n++) {
            if (notes.value(n, 0) == i
                    && dropOf(string, notes.value(n, 1), notes.value(n, 2), notes.value(n, 3)) != notes.value(n, 4)) {
                return false;
            }
        }
        return true;
    }

    private int fittingKinds(int i) {
        int fitting = 0;
        for (int kind = 0; kind < ALL_KINDS; kind++) {
            if (fitsMarks(i, kind)) {
                fitting |= 1 << kind;
            }
        }
        return fitting;
    }

    private boolean fitsMarks(int i, int kind) {
        Table marks = now.marks;
        for (int n = 0; n < marks.size; n++) {
            if (marks.value(n, 0) == i
                    && highOf(kind, marks.value(n, 1), marks.value(n, 2)) != marks.value(n, 3)) {
                return false;
            }
        }
        return true;
    }

    // ---- how many of those that fit a look would leave alike

    private int alikeByLength(int i, int weights, int length) {
        int members = 0;
        for (int weight = 1; weight <= MOST_WEIGHT; weight++) {
            if (hasBit(weights, weight)) {
                put(crowd, members, freshHigh(i, length, weight, TOLD_HOLE));
                members++;
            }
        }
        return mostAlike(crowd, members);
    }

    private int alikeByDrop(int strings, int length, int weight, int worn) {
        int members = 0;
        for (int string = 0; string < ALL_KINDS; string++) {
            if (hasBit(strings, string)) {
                put(crowd, members, dropOf(string, length, weight, worn));
                members++;
            }
        }
        return mostAlike(crowd, members);
    }

    private int alikeByHigh(int fitting, int h, int move) {
        int members = 0;
        for (int kind = 0; kind < ALL_KINDS; kind++) {
            if (hasBit(fitting, kind)) {
                put(crowd, members, highOf(kind, h, move));
                members++;
            }
        }
        return mostAlike(crowd, members);
    }

    /** How high a limb would hang by another weight and length, not worn, behind an even move. */
    private int freshHigh(int i, int length, int weight, int from) {
        return highOf(cell(now.kinds, i), from - dropOf(cell(now.strings, i), length, weight, 0), 0);
    }

    /** What a move, tying or hanging may change: the bar, and of each limb its hole and how worn its string is. */
    private static final class Pose {
        private int lift = FIRST_LIFT;
        private int tilt = 0;
        private int move = 0;
        private final int[] holes = new int[MOST_LIMBS];
        private final int[] worn = new int[MOST_LIMBS];

        private Pose() {
        }

        private void become(Pose other) {
            lift = other.lift;
            tilt = other.tilt;
            move = other.move;
            copyRow(other.holes, holes);
            copyRow(other.worn, worn);
        }

        private void begin(int newLift) {
            lift = newLift;
            tilt = 0;
            move = 0;
        }
    }

    /** Rows of up to five numbers, as they come, the first of each being a limb. */
    private static final class Table {
        private final int width;
        private final int[] cells;
        private final int room;
        private int size = 0;

        private Table(int width, int room) {
            this.width = Math.max(width, 0);
            this.room = Math.max(room, 0);
            this.cells = new int[this.width * this.room];
        }

        private boolean isFull() {
            return size >= room;
        }

        private int append(int a, int b, int c, int d, int e) {
            int start = size * width;
            put(cells, start, a);
            put(cells, start + 1, b);
            put(cells, start + 2, c);
            put(cells, start + 3, d);
            if (width > 4) {
                put(cells, start + 4, e);
            }
            size++;
            return size;
        }

        private int value(int row, int column) {
            return cell(cells, row * width + column);
        }

        private int drain() {
            int had = size;
            size = 0;
            return had;
        }

        private void become(Table other) {
            copyRow(other.cells, cells);
            size = other.size;
        }

        private long digestOn(long start) {
            long h = start;
            for (int at = 0; at < size * width; at++) {
                h = 31 * h + cell(cells, at);
            }
            return h;
        }
    }

    /** All that an image keeps. */
    private static final class Puppet {
        private final int[] kinds = new int[MOST_LIMBS];
        private final int[] strings = new int[MOST_LIMBS];
        private final int[] weights = new int[MOST_LIMBS];
        private final int[] lengths = new int[MOST_LIMBS];
        private int size = 0;
        private final Pose pose = new Pose();

        private final Pose[] past = new Pose[MOST_UNDONE];
        private int nextPast = 0;
        private int undoable = 0;

        private final int[] danceMoves = new int[BEATS];
        private final int[] danceHighs = new int[BEATS];
        private int dancer = 0;

        private final Table sights = new Table(4, MOST_SEEN);
        private final Table notes = new Table(5, MOST_NOTES);
        private final Table marks = new Table(4, MOST_MARKS);

        private Puppet() {
            for (int n = 0; n < past.length; n++) {
                past[n] = new Pose();
            }
            for (int t = 0; t < danceMoves.length; t++) {
                danceMoves[t] = STILL;
            }
        }

        private void begin(int lift) {
            size = 0;
            pose.begin(lift);
            undoable = 0;
            for (int t = 0; t < BEATS; t++) {
                put(danceMoves, t, STILL);
                put(danceHighs, t, 0);
            }
            dancer = 0;
            sights.drain();
            notes.drain();
            marks.drain();
        }

        private void become(Puppet other) {
            copyRow(other.kinds, kinds);
            copyRow(other.strings, strings);
            copyRow(other.weights, weights);
            copyRow(other.lengths, lengths);
            size = other.size;
            pose.become(other.pose);
            for (int n = 0; n < MOST_UNDONE; n++) {
                pastAt(n).become(other.pastAt(n));
            }
            nextPast = other.nextPast;
            undoable = other.undoable;
            copyRow(other.danceMoves, danceMoves);
            copyRow(other.danceHighs, danceHighs);
            dancer = other.dancer;
            sights.become(other.sights);
            notes.become(other.notes);
            marks.become(other.marks);
        }

        /** The limb's number; a new limb ends what may be undone, as poses ahead of it know nothing of it. */
        private int add(int kind, int string, int weight, int length, int hole) {
            int i = size;
            put(kinds, i, kind);
            put(strings, i, string);
            put(weights, i, weight);
            put(lengths, i, length);
            put(pose.holes, i, hole);
            put(pose.worn, i, 0);
            size++;
            undoable = 0;
            return i;
        }

        private int weightOf(int i) {
            return cell(weights, i);
        }

        private int holeOf(int i) {
            return cell(pose.holes, i);
        }

        private int wornOf(int i) {
            return cell(pose.worn, i);
        }

        private void step(Pose moved, int m) {
            moved.lift = liftBehind(moved.lift, m);
            moved.tilt = tiltBehind(moved.tilt, m);
            moved.move++;
            for (int i = 0; i < size; i++) {
                put(moved.worn, i, wornBehind(cell(moved.worn, i), weightOf(i), moved.tilt));
            }
        }

        private int snappedIn(Pose looked) {
            int snapped = 0;
            for (int i = 0; i < size; i++) {
                if (isSnapped(cell(looked.worn, i))) {
                    snapped++;
                }
            }
            return snapped;
        }

        private int wornTogether() {
            int sum = 0;
            for (int i = 0; i < size; i++) {
                sum += wornOf(i);
            }
            return sum;
        }

        private int highIn(Pose looked, int i) {
            int from = holeAt(looked.lift, looked.tilt, cell(looked.holes, i));
            return highFrom(i, from, cell(looked.worn, i), looked.move);
        }

        private int highFrom(int i, int from, int worn, int move) {
            if (isSnapped(worn)) {
                return HIGH_OF_SNAPPED;
            }
            int drop = dropOf(cell(strings, i), cell(lengths, i), cell(weights, i), worn);
            return highOf(cell(kinds, i), from - drop, move);
        }

        private int tellOf(int i, int what) {
            switch (what) {
                case 0:
                    return cell(kinds, i);
                case 1:
                    return cell(strings, i);
                case 2:
                    return weightOf(i);
                case 3:
                    return cell(lengths, i);
                case 4:
                    return holeOf(i);
                case 5:
                    return wornOf(i);
                case 6:
                    return isSnapped(wornOf(i)) ? 1 : 0;
                default:
                    return highIn(pose, i);
            }
        }

        private Pose pastAt(int n) {
            Pose found = n >= 0 && n < past.length ? past[n] : null;
            return found == null ? pose : found;
        }

        /** The row goes round, so that the ninth takes the oldest one's place. */
        private void remember() {
            pastAt(nextPast).become(pose);
            nextPast = (nextPast + 1) % MOST_UNDONE;
            undoable = Math.min(undoable + 1, MOST_UNDONE);
        }

        private void goBack() {
            nextPast = (nextPast + MOST_UNDONE - 1) % MOST_UNDONE;
            undoable--;
            pose.become(pastAt(nextPast));
        }
    }

    /** The first of the shortest rows of moves behind which two limbs (or one, told twice) are as high as told. */
    private static final class Search {
        private final int[] row = new int[LONGEST_ROW];
        private int length = 0;
        private int firstLimb = 0;
        private int firstGoal = 0;
        private int firstWeight = 0;
        private int secondLimb = 0;
        private int secondGoal = 0;
        private int secondWeight = 0;

        private Search() {
        }

        private int fewest(Puppet puppet, int i, int x, int j, int y) {
            firstLimb = i;
            firstGoal = x;
            firstWeight = puppet.weightOf(i);
            secondLimb = j;
            secondGoal = y;
            secondWeight = puppet.weightOf(j);
            Pose start = puppet.pose;
            for (int n = 0; n <= LONGEST_ROW; n++) {
                length = n;
                if (reaches(puppet, n, start.lift, start.tilt, puppet.wornOf(i), puppet.wornOf(j))) {
                    return n;
                }
            }
            return -1;
        }

        private boolean reaches(Puppet puppet, int left, int lift, int tilt, int firstWorn, int secondWorn) {
            if (left <= 0 || left > LONGEST_ROW) {
                return left == 0 && isHigh(puppet, firstLimb, firstGoal, lift, tilt, firstWorn)
                        && isHigh(puppet, secondLimb, secondGoal, lift, tilt, secondWorn);
            }
            for (int m = 0; m < ALL_MOVES; m++) {
                int nextLift = liftBehind(lift, m);
                int nextTilt = tiltBehind(tilt, m);
                int nextFirst = wornBehind(firstWorn, firstWeight, nextTilt);
                int nextSecond = wornBehind(secondWorn, secondWeight, nextTilt);
                put(row, length - left, m);
                if (reaches(puppet, left - 1, nextLift, nextTilt, nextFirst, nextSecond)) {
                    return true;
                }
            }
            return false;
        }

        private boolean isHigh(Puppet puppet, int i, int goal, int lift, int tilt, int worn) {
            int from = holeAt(lift, tilt, puppet.holeOf(i));
            return puppet.highFrom(i, from, worn, puppet.pose.move + length) == goal;
        }
    }

    /** What each of two hands at the bar gets by each pair of moves. */
    private static final class Bargain {
        private final int[] firstGains = new int[ALL_MOVES * ALL_MOVES];
        private final int[] secondGains = new int[ALL_MOVES * ALL_MOVES];

        private Bargain() {
        }

        private void weigh(Puppet puppet, Pose trial, int a, int b) {
            int firstHigh = puppet.highIn(puppet.pose, a);
            int secondHigh = puppet.highIn(puppet.pose, b);
            for (int i = 0; i < ALL_MOVES; i++) {
                for (int j = 0; j < ALL_MOVES; j++) {
                    trial.become(puppet.pose);
                    puppet.step(trial, i);
                    puppet.step(trial, j);
                    put(firstGains, place(i, j), puppet.highIn(trial, a) - firstHigh - toll(i));
                    put(secondGains, place(i, j), puppet.highIn(trial, b) - secondHigh - toll(j));
                }
            }
        }

        private boolean rests(int i, int j) {
            for (int other = 0; other < ALL_MOVES; other++) {
                if (cell(firstGains, place(other, j)) > cell(firstGains, place(i, j))
                        || cell(secondGains, place(i, other)) > cell(secondGains, place(i, j))) {
                    return false;
                }
            }
            return true;
        }

        private static int place(int i, int j) {
            return i * ALL_MOVES + j;
        }

        private static int toll(int m) {
            return m == STILL ? 0 : 2;
        }
    }

    /** The text, and the puppet that it tells. */
    private static final class Reader {
        private static final int END = 0;
        private static final int WORD = 1;
        private static final int NUMBER = 2;
        private static final int SEMICOLON = 3;
        private static final int WRONG = 4;
        private static final int MOST_NUMBERS = 9;

        private final int[] text = new int[MOST_TEXT];
        private int length = 0;
        private int start = 0;
        private int end = 0;
        private int sort = END;
        private int number = 0;

        private Reader() {
        }

        private int append(int c) {
            put(text, length, c);
            length++;
            return length;
        }

        /** How many items, or, below 0, where the fault is; the token at fault is the one read last. */
        private int readInto(Puppet draft) {
            end = 0;
            if (!takeOpening(draft)) {
                return BEFORE_FAULT - start;
            }
            for (int items = 1; items <= MOST_TEXT; items++) {
                advance();
                if (sort == END) {
                    return items;
                }
                if (!takeItem(draft)) {
                    return BEFORE_FAULT - start;
                }
            }
            return BEFORE_FAULT - start;
        }

        private boolean takeOpening(Puppet draft) {
            advance();
            if (!isWord("puppet") || !takeNumber(0, MOST_LIFT)) {
                return false;
            }
            draft.begin(number);
            return takeSemicolon();
        }

        private boolean takeItem(Puppet draft) {
            if (isWord("limb")) {
                return draft.size < MOST_LIMBS && takeLimb(draft);
            }
            if (isWord("move")) {
                return takeMoves(draft);
            }
            if (isWord("tie")) {
                return takeTie(draft);
            }
            return isWord("hang") && takeHang(draft);
        }

        private boolean takeLimb(Puppet draft) {
            if (!takeNumber(0, ALL_KINDS - 1)) {
                return false;
            }
            int kind = number;
            if (!takeNumber(0, ALL_KINDS - 1)) {
                return false;
            }
            int string = number;
            if (!takeNumber(1, MOST_WEIGHT)) {
                return false;
            }
            int weight = number;
            if (!takeNumber(1, MOST_LENGTH)) {
                return false;
            }
            int limbLength = number;
            if (!takeNumber(0, LAST_HOLE)) {
                return false;
            }
            draft.add(kind, string, weight, limbLength, number);
            return takeSemicolon();
        }

        private boolean takeMoves(Puppet draft) {
            for (int n = 0; n <= MOST_NUMBERS; n++) {
                advance();
                if (n > 0 && sort == SEMICOLON) {
                    return true;
                }
                if (n == MOST_NUMBERS || !isNumber(0, ALL_MOVES - 1)) {
                    return false;
                }
                draft.step(draft.pose, number);
            }
            return false;
        }

        private boolean takeTie(Puppet draft) {
            if (!takeNumber(0, draft.size - 1) || !isSnapped(draft.wornOf(number))) {
                return false;
            }
            put(draft.pose.worn, number, 0);
            return takeSemicolon();
        }

        private boolean takeHang(Puppet draft) {
            if (!takeNumber(0, draft.size - 1)) {
                return false;
            }
            int i = number;
            if (!takeNumber(0, LAST_HOLE)) {
                return false;
            }
            put(draft.pose.holes, i, number);
            return takeSemicolon();
        }

        private boolean takeNumber(int least, int most) {
            advance();
            return isNumber(least, most);
        }

        private boolean takeSemicolon() {
            advance();
            return sort == SEMICOLON;
        }

        private boolean isNumber(int least, int most) {
            return sort == NUMBER && !outside(number, least, most);
        }

        private boolean isWord(String word) {
            if (sort != WORD || end - start != word.length()) {
                return false;
            }
            for (int n = 0; n < word.length(); n++) {
                if (cell(text, start + n) != word.charAt(n)) {
                    return false;
                }
            }
            return true;
        }

        private void advance() {
            start = runEnd(end, ' ', ' ');
            end = start + 1;
            int c = cell(text, start);
            if (start >= length) {
                sort = END;
                end = length;
            } else if (!outside(c, 'a', 'z')) {
                sort = WORD;
                end = runEnd(start, 'a', 'z');
            } else if (!outside(c, '0', '9')) {
                end = runEnd(start, '0', '9');
                sort = end - start <= 2 ? NUMBER : WRONG;
                number = end - start == 1 ? c - '0' : 10 * (c - '0') + cell(text, start + 1) - '0';
            } else {
                sort = c == ';' ? SEMICOLON : WRONG;
            }
        }

        private int runEnd(int from, int least, int most) {
            int at = from;
            while (at >= 0 && at < length && at < text.length && text[at] >= least && text[at] <= most) {
                at++;
            }
            return at;
        }
    }
}
