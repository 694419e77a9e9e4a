import java.math.BigInteger;
import java.util.ArrayList;
import java.util.Arrays;
import java.util.HashMap;
import java.util.List;
import java.util.Map;
import java.util.regex.Matcher;
import java.util.regex.Pattern;

/**
 * The document once more, written in another way than the class: kinds as a tree of classes, states copied whole,
 * searches breadth first, the text cut by a pattern. AgainstModelTest lets both answer the same calls.
 */
final class PuppetModel {
    static final int NONE = -1001, BAD = -1002, NO = -1003, FULL = -1004;

    static class Silk {
        int drop(int l, int w, int n) { return l; }
    }
    static class Gut extends Silk {
        @Override int drop(int l, int w, int n) { return super.drop(l, w, n) + w / 3; }
    }
    static class Elastic extends Silk {
        @Override int drop(int l, int w, int n) { return super.drop(l, w, n) + w; }
    }
    static class Wire extends Silk {
        @Override int drop(int l, int w, int n) { return super.drop(l, w, n) - (l % 2 == 0 ? 1 : 0); }
    }
    static class OldGut extends Gut {
        @Override int drop(int l, int w, int n) { return super.drop(l, w, n) + n / 10; }
    }
    static class Ribbon extends Elastic {
        @Override int drop(int l, int w, int n) { return Math.min(super.drop(l, w, n), 2 * l); }
    }
    static class Head {
        int high(int h, int t) { return h; }
    }
    static class Hand extends Head {
        @Override int high(int h, int t) { return Math.max(super.high(h, t), 2); }
    }
    static class Foot extends Head {
        @Override int high(int h, int t) { return Math.min(9, Math.max(0, super.high(h, t))); }
    }
    static class Knee extends Foot {
        @Override int high(int h, int t) { return super.high(h, t) / 2; }
    }
    static class Tail extends Head {
        @Override int high(int h, int t) { return super.high(h, t) - (t % 2 == 1 ? 1 : 0); }
    }
    static class Wing extends Hand {
        @Override int high(int h, int t) { return super.high(h, t) + 3; }
    }
    static final Silk[] STRINGS = {new Silk(), new Gut(), new Elastic(), new Wire(), new OldGut(), new Ribbon()};
    static final Head[] LIMBS = {new Head(), new Hand(), new Foot(), new Knee(), new Tail(), new Wing()};

    static final class Limb {
        int kind, string, weight, length, hole, worn;
        boolean snapped;

        Limb copy() {
            Limb c = new Limb();
            c.kind = kind; c.string = string; c.weight = weight; c.length = length; c.hole = hole;
            c.worn = worn; c.snapped = snapped;
            return c;
        }
    }

    /** The bar and the limbs on it. */
    static final class Hung {
        int lift = 20, tilt = 0, move = 0;
        List<Limb> limbs = new ArrayList<>();

        Hung copy() {
            Hung c = new Hung();
            c.lift = lift; c.tilt = tilt; c.move = move;
            for (Limb l : limbs) c.limbs.add(l.copy());
            return c;
        }
        Hung go(int m) {
            Hung c = copy();
            if (m == 0) c.lift = Math.min(40, lift + 3);
            if (m == 1) c.lift = Math.max(0, lift - 3);
            if (m == 2) c.tilt = Math.max(-4, tilt - 1);
            if (m == 3) c.tilt = Math.min(4, tilt + 1);
            c.move++;
            for (Limb l : c.limbs) {
                if (l.snapped) continue;
                l.worn = Math.min(99, l.worn + l.weight * (Math.abs(c.tilt) == 4 ? 2 : 1));
                l.snapped = l.worn == 99;
            }
            return c;
        }
        int high(int i) { return high(i, limbs.get(i).hole); }
        int high(int i, int hole) {
            Limb l = limbs.get(i);
            if (l.snapped) return -20;
            int at = lift + tilt * (hole - 4);
            return LIMBS[l.kind].high(at - STRINGS[l.string].drop(l.length, l.weight, l.worn), move);
        }
        int snapped() {
            int n = 0;
            for (Limb l : limbs) if (l.snapped) n++;
            return n;
        }
    }

    static final class State {
        Hung hung = new Hung();
        List<Hung> past = new ArrayList<>();
        int[] beatMove = {4, 4, 4, 4, 4, 4, 4, 4};
        int[] beatHigh = new int[8];
        int dancer = 0;
        List<int[]> seen = new ArrayList<>(), notes = new ArrayList<>(), marks = new ArrayList<>();

        State copy() {
            State c = new State();
            c.hung = hung.copy();
            for (Hung h : past) c.past.add(h.copy());
            c.beatMove = beatMove.clone();
            c.beatHigh = beatHigh.clone();
            c.dancer = dancer;
            c.seen.addAll(seen);
            c.notes.addAll(notes);
            c.marks.addAll(marks);
            return c;
        }
        void remember() {
            past.add(hung.copy());
            if (past.size() > 8) past.remove(0);
        }
    }

    State s = new State();
    final State[] images = new State[2];
    final StringBuilder text = new StringBuilder();
    BigInteger above = BigInteger.ZERO, below = BigInteger.ONE;
    final int[] status = new int[3];

    private int bad() { status[0]++; return BAD; }
    private int bad10() { status[0]++; return -10; }
    private int no() { status[1]++; return NO; }
    private int full() { status[2]++; return FULL; }
    private static boolean in(int v, int a, int b) { return a <= v && v <= b; }
    private boolean there(int i) { return in(i, 0, s.hung.limbs.size() - 1); }
    private static boolean hi(int x) { return in(x, -40, 60); }

    int puppet(int lift) {
        if (!in(lift, 0, 40)) return bad();
        int had = s.hung.limbs.size();
        s = new State();
        s.hung.lift = lift;
        return had;
    }
    int limb(int kind, int string, int weight, int length, int hole) {
        if (!in(kind, 0, 5) || !in(string, 0, 5) || !in(weight, 1, 9) || !in(length, 1, 20) || !in(hole, 0, 8)) return bad();
        if (s.hung.limbs.size() == 7) return full();
        addTo(s, kind, string, weight, length, hole);
        return s.hung.limbs.size() - 1;
    }
    private static void addTo(State st, int kind, int string, int weight, int length, int hole) {
        Limb l = new Limb();
        l.kind = kind; l.string = string; l.weight = weight; l.length = length; l.hole = hole;
        st.hung.limbs.add(l);
        st.past.clear();
    }
    int type(int c) {
        if (!in(c, 0, 127)) return bad();
        if (text.length() == 150) return full();
        text.append((char) c);
        return text.length();
    }
    int clear() {
        int n = text.length();
        text.setLength(0);
        return n;
    }

    static final class Token {
        final String word;
        final int at;
        Token(String word, int at) { this.word = word; this.at = at; }
    }
    private static final Pattern TOKEN = Pattern.compile("[a-z]+|[0-9]+|;|[^ ]", Pattern.DOTALL);

    int read() {
        List<Token> tokens = new ArrayList<>();
        Matcher m = TOKEN.matcher(text);
        while (m.find()) tokens.add(new Token(m.group(), m.start()));
        State st = new State();
        int items = 0;
        List<Token> item = new ArrayList<>();
        for (Token t : tokens) {
            if (!stands(st, item, t, items)) return -10 - t.at;
            item.add(t);
            if (t.word.equals(";")) {
                items++;
                apply(st, item);
                item.clear();
            }
        }
        if (items == 0 || !item.isEmpty()) return -10 - text.length();
        s = st;
        return items;
    }
    private static int num(String w) {
        return w.matches("[0-9]{1,2}") ? Integer.parseInt(w) : -1;
    }
    private static boolean stands(State st, List<Token> item, Token t, int items) {
        String w = t.word;
        int n = item.size();
        int limbs = st.hung.limbs.size();
        if (n == 0) {
            if (items == 0) return w.equals("puppet");
            if (w.equals("limb")) return limbs < 7;
            return w.equals("move") || w.equals("tie") || w.equals("hang");
        }
        switch (item.get(0).word) {
            case "puppet": return n == 1 ? in(num(w), 0, 40) : w.equals(";");
            case "limb": {
                int[] lo = {0, 0, 1, 1, 0}, up = {5, 5, 9, 20, 8};
                return n <= 5 ? in(num(w), lo[n - 1], up[n - 1]) : w.equals(";");
            }
            case "move":
                if (w.equals(";")) return n > 1;
                return n <= 9 && in(num(w), 0, 4);
            case "tie": {
                if (n > 1) return w.equals(";");
                return in(num(w), 0, limbs - 1) && st.hung.limbs.get(num(w)).snapped;
            }
            default:
                if (n == 1) return in(num(w), 0, limbs - 1);
                return n == 2 ? in(num(w), 0, 8) : w.equals(";");
        }
    }
    private static void apply(State st, List<Token> item) {
        int[] v = new int[item.size()];
        for (int k = 1; k < item.size() - 1; k++) v[k] = num(item.get(k).word);
        switch (item.get(0).word) {
            case "puppet": st.hung.lift = v[1]; break;
            case "limb": addTo(st, v[1], v[2], v[3], v[4], v[5]); break;
            case "move": for (int k = 1; k < item.size() - 1; k++) st.hung = st.hung.go(v[k]); break;
            case "tie": st.hung.limbs.get(v[1]).worn = 0; st.hung.limbs.get(v[1]).snapped = false; break;
            default: st.hung.limbs.get(v[1]).hole = v[2];
        }
    }

    int moves(int m) {
        if (!in(m, 0, 4)) return bad();
        if (s.hung.move == 9999) return no();
        s.remember();
        s.hung = s.hung.go(m);
        return s.hung.snapped();
    }
    int ties(int i) {
        if (!there(i)) return bad();
        Limb l = s.hung.limbs.get(i);
        if (!l.snapped) return no();
        int was = l.worn;
        s.remember();
        l.snapped = false;
        l.worn = 0;
        return was;
    }
    int hangs(int i, int x) {
        if (!there(i) || !in(x, 0, 8)) return bad();
        Limb l = s.hung.limbs.get(i);
        if (l.hole == x) return no();
        int was = l.hole;
        s.remember();
        l.hole = x;
        return was;
    }
    int undo() {
        if (s.past.isEmpty()) return no();
        s.hung = s.past.remove(s.past.size() - 1);
        return s.hung.move;
    }
    int of(int i, int what) {
        if (!there(i) || !in(what, 0, 7)) return bad();
        return tell7(i)[what];
    }
    private int[] tell7(int i) {
        Limb l = s.hung.limbs.get(i);
        return new int[] {l.kind, l.string, l.weight, l.length, l.hole, l.worn, l.snapped ? 1 : 0, s.hung.high(i)};
    }

    private static int list(List<Integer> found, int k) {
        if (k == -1) return found.size();
        return k < found.size() ? found.get(k) : -5;
    }
    int touch(int k) {
        if (k < -1) return bad10();
        List<Integer> pairs = new ArrayList<>();
        for (int p = 0; p < 70; p++) {
            int i = p / 10, j = p % 10;
            if (i < j && there(i) && there(j) && !s.hung.limbs.get(i).snapped && !s.hung.limbs.get(j).snapped
                    && s.hung.high(i) == s.hung.high(j)) pairs.add(p);
        }
        return list(pairs, k);
    }
    int safe(int i) {
        if (!there(i)) return bad();
        Hung h = s.hung;
        for (int n = 0; n <= 60; n++) {
            if (h.limbs.get(i).snapped) return n;
            h = h.go(4);
        }
        return NONE;
    }
    private List<Integer> first(int i, int x, int j, int y) {
        List<Hung> states = new ArrayList<>(List.of(s.hung));
        List<List<Integer>> rows = new ArrayList<>(List.of(List.of()));
        for (int n = 0; n <= 5; n++) {
            for (int r = 0; r < rows.size(); r++) {
                if (states.get(r).high(i) == x && states.get(r).high(j) == y) return rows.get(r);
            }
            List<Hung> nextStates = new ArrayList<>();
            List<List<Integer>> nextRows = new ArrayList<>();
            for (int r = 0; n < 5 && r < rows.size(); r++) {
                for (int m = 0; m < 5; m++) {
                    List<Integer> row = new ArrayList<>(rows.get(r));
                    row.add(m);
                    nextRows.add(row);
                    nextStates.add(states.get(r).go(m));
                }
            }
            states = nextStates;
            rows = nextRows;
        }
        return null;
    }
    int few(int i, int x, int k) {
        if (!there(i) || !hi(x) || k < -1) return bad10();
        List<Integer> row = first(i, x, i, x);
        return row == null ? -6 : list(row, k);
    }
    int both(int i, int x, int j, int y) {
        if (!there(i) || !there(j) || i == j || !hi(x) || !hi(y)) return bad();
        List<Integer> row = first(i, x, j, y);
        return row == null ? NONE : row.size();
    }
    int hole(int i, int x, int what) {
        if (!there(i) || !hi(x) || !in(what, 0, 1)) return bad();
        int far = Integer.MAX_VALUE, at = -1;
        for (int o = 8; o >= 0; o--) {
            int d = Math.abs(s.hung.high(i, o) - x);
            if (d <= far) { far = d; at = o; }
        }
        return what == 0 ? at : far;
    }
    int beat(int t, int m, int x) {
        if (!in(t, 0, 7) || !in(m, 0, 4) || !hi(x)) return bad();
        int had = s.beatMove[t];
        s.beatMove[t] = m;
        s.beatHigh[t] = x;
        return had;
    }
    int dance(int i) {
        if (!in(i, 0, 6)) return bad();
        int had = s.dancer;
        s.dancer = i;
        return had;
    }
    int comesOut() {
        if (!there(s.dancer)) return 0;
        Hung h = s.hung;
        int n = 0;
        for (int t = 0; t < 8; t++) {
            h = h.go(s.beatMove[t]);
            if (h.high(s.dancer) == s.beatHigh[t]) n++;
        }
        return n;
    }
    int snaps() {
        Hung h = s.hung;
        for (int t = 0; t < 8; t++) {
            Hung next = h.go(s.beatMove[t]);
            for (int i = 0; i < h.limbs.size(); i++) if (!h.limbs.get(i).snapped && next.limbs.get(i).snapped) return t;
            h = next;
        }
        return NONE;
    }

    int seen(int i, int l, int g, int x) {
        if (!there(i) || !in(l, 1, 20) || !in(g, 0, 60) || !hi(x)) return bad();
        if (s.seen.size() == 5) return full();
        s.seen.add(new int[] {i, l, g, x});
        return s.seen.size();
    }
    private int fresh(int i, int l, int w, int g) {
        Limb b = s.hung.limbs.get(i);
        return LIMBS[b.kind].high(g - STRINGS[b.string].drop(l, w, 0), 2);
    }
    private List<Integer> weights(int i) {
        List<Integer> fit = new ArrayList<>();
        for (int w = 1; w <= 9; w++) {
            int weight = w;
            if (s.seen.stream().filter(r -> r[0] == i).allMatch(r -> fresh(i, r[1], weight, r[2]) == r[3])) fit.add(w);
        }
        return fit;
    }
    int heavy(int i, int what) {
        if (!there(i) || !in(what, 0, 2)) return bad();
        List<Integer> fit = weights(i);
        if (what == 0) return fit.size();
        if (fit.isEmpty()) return NONE;
        return what == 1 ? fit.get(0) : fit.get(fit.size() - 1);
    }
    private static int most(List<Integer> answers) {
        Map<Integer, Integer> groups = new HashMap<>();
        for (int a : answers) groups.merge(a, 1, Integer::sum);
        return groups.values().stream().max(Integer::compare).get();
    }
    int tell(int i) {
        if (!there(i)) return bad();
        List<Integer> fit = weights(i);
        if (fit.isEmpty()) return NONE;
        int[] worst = new int[21];
        for (int l = 1; l <= 20; l++) {
            List<Integer> answers = new ArrayList<>();
            for (int w : fit) answers.add(fresh(i, l, w, 30));
            worst[l] = most(answers);
        }
        int min = Arrays.stream(worst, 1, 21).min().getAsInt();
        for (int l = 1; ; l++) if (worst[l] == min) return l;
    }
    int note(int i, int l, int w, int n, int x) {
        if (!there(i) || !in(l, 1, 20) || !in(w, 1, 9) || !in(n, 0, 99) || !in(x, 0, 60)) return bad();
        if (s.notes.size() == 6) return full();
        s.notes.add(new int[] {i, l, w, n, x});
        return s.notes.size();
    }
    int mark(int i, int h, int t, int x) {
        if (!there(i) || !hi(h) || !in(t, 0, 99) || !hi(x)) return bad();
        if (s.marks.size() == 6) return full();
        s.marks.add(new int[] {i, h, t, x});
        return s.marks.size();
    }
    int forget(int what) {
        if (!in(what, 0, 2)) return bad();
        List<int[]> rows = what == 0 ? s.seen : what == 1 ? s.notes : s.marks;
        int n = rows.size();
        rows.clear();
        return n;
    }
    private int bits(int i, boolean strings) {
        int b = 0;
        for (int k = 0; k < 6; k++) {
            boolean fits = true;
            for (int[] r : strings ? s.notes : s.marks) {
                if (r[0] != i) continue;
                if (strings) fits &= STRINGS[k].drop(r[1], r[2], r[3]) == r[4];
                else fits &= LIMBS[k].high(r[1], r[2]) == r[3];
            }
            if (fits) b += 1 << k;
        }
        return b;
    }
    int is(int i) { return there(i) ? bits(i, true) : bad(); }
    int kinds(int i) { return there(i) ? bits(i, false) : bad(); }
    int look(int i) {
        if (!there(i)) return bad();
        int b = bits(i, true);
        if (b == 0) return NONE;
        int best = -1, fewest = 99;
        for (int wl = 101; wl <= 920; wl++) {
            if (!in(wl % 100, 1, 20)) continue;
            List<Integer> answers = new ArrayList<>();
            for (int k = 0; k < 6; k++) {
                if ((b & 1 << k) != 0) answers.add(STRINGS[k].drop(wl % 100, wl / 100, s.hung.limbs.get(i).worn));
            }
            if (most(answers) < fewest) { fewest = most(answers); best = wl; }
        }
        return best;
    }
    int ask(int i) {
        if (!there(i)) return bad();
        int b = bits(i, false);
        if (b == 0) return NONE;
        int best = -1, fewest = 99;
        for (int ht = 0; ht <= 201; ht++) {
            if (ht % 10 > 1) continue;
            List<Integer> answers = new ArrayList<>();
            for (int k = 0; k < 6; k++) if ((b & 1 << k) != 0) answers.add(LIMBS[k].high(ht / 10, ht % 10));
            if (most(answers) < fewest) { fewest = most(answers); best = ht; }
        }
        return best;
    }
    private int gain(int limb, int i, int j, int own) {
        return s.hung.go(i).go(j).high(limb) - s.hung.high(limb) - (own == 4 ? 0 : 2);
    }
    int hands(int a, int b, int k) {
        if (!there(a) || !there(b) || a == b || k < -1) return bad10();
        List<Integer> rest = new ArrayList<>();
        for (int i = 0; i < 5; i++) {
            for (int j = 0; j < 5; j++) {
                boolean rests = true;
                for (int m = 0; m < 5; m++) {
                    rests &= gain(a, m, j, m) <= gain(a, i, j, i);
                    rests &= gain(b, i, m, m) <= gain(b, i, j, j);
                }
                if (rests) rest.add(10 * i + j);
            }
        }
        return list(rest, k);
    }
    private BigInteger chances(Hung h, int t, int n, int c) {
        if (t == n) return h.high(s.dancer) == s.beatHigh[n - 1] ? BigInteger.ONE : BigInteger.ZERO;
        BigInteger still = chances(h.go(4), t + 1, n, c).multiply(BigInteger.valueOf(c));
        return chances(h.go(s.beatMove[t]), t + 1, n, c).multiply(BigInteger.valueOf(10 - c)).add(still);
    }
    int slack(int n, int c) {
        if (!in(n, 0, 6) || !in(c, 0, 10)) return bad();
        BigInteger up = n == 0 ? BigInteger.ONE : there(s.dancer) ? chances(s.hung, 0, n, c) : BigInteger.ZERO;
        BigInteger down = BigInteger.TEN.pow(n), g = up.gcd(down);
        above = up.divide(g);
        below = down.divide(g);
        return 1;
    }
    int nights(int seed, int n) {
        if (!in(seed, 0, 999999) || !in(n, 0, 60)) return bad();
        Hung h = s.hung;
        BigInteger x = BigInteger.valueOf(seed);
        for (int k = 0; k < n; k++) {
            x = x.multiply(BigInteger.valueOf(1103515245)).add(BigInteger.valueOf(12345)).mod(BigInteger.ONE.shiftLeft(31));
            h = h.go(x.shiftRight(16).mod(BigInteger.valueOf(5)).intValue());
        }
        return h.snapped();
    }

    long part(int what) {
        if (!in(what, 0, 1)) return bad();
        return (what == 0 ? above : below).longValue();
    }
    int image(int i) {
        if (!in(i, 0, 1)) return bad();
        images[i] = s.copy();
        return 1;
    }
    int from(int i) {
        if (!in(i, 0, 1)) return bad();
        if (images[i] == null) return no();
        s = images[i].copy();
        return 1;
    }
    int status(int what) {
        if (!in(what, 0, 2)) { status[0]++; return -1; }
        return status[what];
    }
    private int[] counts() {
        int worn = 0;
        for (Limb l : s.hung.limbs) worn += l.worn;
        return new int[] {s.hung.limbs.size(), s.hung.snapped(), s.hung.lift, s.hung.tilt, s.hung.move, worn,
            s.seen.size(), s.notes.size(), s.marks.size(), s.past.size(), text.length()};
    }
    int count(int what) { return in(what, 0, 10) ? counts()[what] : bad(); }
    long digest() {
        List<Long> v = new ArrayList<>();
        for (int c : counts()) v.add((long) c);
        for (int i = 0; i < s.hung.limbs.size(); i++) for (int w = 0; w <= 6; w++) v.add((long) tell7(i)[w]);
        for (int t = 0; t < 8; t++) { v.add((long) s.beatMove[t]); v.add((long) s.beatHigh[t]); }
        v.add((long) s.dancer);
        for (int[] r : s.seen) for (int x : r) v.add((long) x);
        for (int[] r : s.notes) for (int x : r) v.add((long) x);
        for (int[] r : s.marks) for (int x : r) v.add((long) x);
        v.add(above.longValue());
        v.add(below.longValue());
        long h = 1783;
        for (long x : v) h = 31 * h + x;
        return h;
    }
}
