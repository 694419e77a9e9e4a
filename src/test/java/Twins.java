import java.util.ArrayList;
import java.util.List;

/** Two objects made alike, one of which a call is made on: what may be seen of them tells what the call changed. */
final class Twins {
    interface State {
        StringPuppets make();
    }

    interface Call {
        long on(StringPuppets x);
    }

    static final int BAD = 0, NO = 1, FULL = 2;

    private Twins() {
    }

    /** Refused: nothing but one count of STATUS is another, and that is one more. */
    static void refused(String what, State state, Call call, long answer, int reason) {
        compare(what, state, call, answer, reason);
    }

    /** Nothing at all is changed. */
    static void unchanged(String what, State state, Call call, long answer) {
        compare(what, state, call, answer, -1);
    }

    private static void compare(String what, State state, Call call, long answer, int reason) {
        StringPuppets called = state.make();
        StringPuppets left = state.make();
        Due.is(what, call.on(called), answer);
        for (int k = 0; k < 3; k++) {
            Due.is(what + ": status(" + k + ")", called.status(k), left.status(k) + (k == reason ? 1 : 0));
        }
        Due.is(what + ": is all but STATUS as it was", seenOf(called).equals(seenOf(left)) ? 1 : 0, 1);
    }

    /** All that can be learned of an object, the counts of STATUS apart; the object is used up by it. */
    private static List<Long> seenOf(StringPuppets x) {
        List<Long> seen = new ArrayList<>();
        addLooks(seen, x);
        addPuppet(seen, x);
        for (int image = 0; image <= 1; image++) {
            seen.add((long) x.from(image));
            addPuppet(seen, x);
        }
        seen.add(x.part(0));
        seen.add(x.part(1));
        seen.add((long) x.read());
        seen.add(x.digest());
        return seen;
    }

    /** What a call might leave behind in rows that looks share. */
    private static void addLooks(List<Long> seen, StringPuppets x) {
        int limbs = x.count(0);
        for (int i = 0; i < limbs; i++) {
            int other = (i + 1) % limbs;
            long[] looks = {x.of(i, 7), x.safe(i), x.hole(i, 5, 0), x.few(i, 9, 0), x.both(i, 9, other, 9), x.heavy(i, 1),
                x.tell(i), x.is(i), x.look(i), x.kinds(i), x.ask(i), x.hands(i, other, 0)};
            for (long look : looks) {
                seen.add(look);
            }
        }
        for (long look : new long[] {x.touch(-1), x.touch(0), x.comesOut(), x.snaps(), x.nights(7, 9)}) {
            seen.add(look);
        }
    }

    private static void addPuppet(List<Long> seen, StringPuppets x) {
        seen.add(x.digest());
        for (int k = 0; k < 9; k++) {
            seen.add((long) x.undo());
            seen.add(x.digest());
        }
    }
}
