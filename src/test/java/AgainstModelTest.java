import java.lang.reflect.Method;
import java.util.ArrayList;
import java.util.List;
import java.util.Random;

/** Long runs of calls, ordinary, at the edges and wild, that the class and PuppetModel must answer alike. */
public final class AgainstModelTest {
    private static final int RUNS = 800;
    /** A digest behind each of them: 512 calls in all, behind which nothing is promised. */
    private static final int CALLS = 256;
    private static final String[] NAMES = {
        "puppet", "limb", "type", "clear", "read", "moves", "ties", "hangs", "undo", "of", "touch", "safe", "few",
        "both", "hole", "beat", "dance", "comesOut", "snaps", "seen", "heavy", "tell", "note", "mark", "forget", "is",
        "look", "kinds", "ask", "hands", "slack", "nights", "part", "image", "from", "status", "count", "digest"};
    private static final int[] WILD = {
        Integer.MIN_VALUE, Integer.MIN_VALUE + 1, -1000, -41, -40, -21, -20, -2, -1, 0, 1, 2, 4, 5, 6, 7, 8, 9, 10, 11,
        20, 21, 40, 41, 60, 61, 99, 100, 127, 128, 999999, 1000000, Integer.MAX_VALUE - 1, Integer.MAX_VALUE};
    private static final String[] WORDS = {
        "puppet", "limb", "move", "tie", "hang", ";", ";", ";", "0", "1", "2", "4", "5", "8", "9", "20", "21", "40", "41",
        "07", "123", "-", "A", "x", "limbs", "puppet 20;", "limb 1 4 9 5 0;", "limb 4 5 9 3 8;", "move 3 3 3 3;",
        "move 4 4 4 4 4 4 4 4 4;", "move 0 1 2 3 4 0 1 2 3 4;", "tie 0;", "hang 1 3;", "hang 0 0;", " ", "  ", "\t"};

    private final Random random = new Random(20261117);
    private final Method[] ours = new Method[NAMES.length];
    private final Method[] models = new Method[NAMES.length];
    private final int[] answered = new int[NAMES.length];
    private int puppetsRead = 0;

    public static void main(String[] args) throws Exception {
        new AgainstModelTest().run();
    }

    private void run() throws Exception {
        for (int n = 0; n < NAMES.length; n++) {
            ours[n] = named(StringPuppets.class, NAMES[n]);
            models[n] = named(PuppetModel.class, NAMES[n]);
        }
        for (int r = 0; r < RUNS; r++) {
            if (!runOnce(r)) {
                System.exit(1);
            }
        }
        for (int n = 0; n < NAMES.length; n++) {
            if (answered[n] < 20) {
                System.out.println(NAMES[n] + " was hardly ever answered: " + answered[n]);
                System.exit(1);
            }
        }
        if (puppetsRead < 20) {
            System.out.println("hardly a puppet was read: " + puppetsRead);
            System.exit(1);
        }
        System.out.println(RUNS + " runs of " + CALLS + " calls answered as by the model, " + puppetsRead + " puppets read");
    }

    private static Method named(Class<?> owner, String name) {
        for (Method m : owner.getDeclaredMethods()) {
            if (m.getName().equals(name)) {
                m.setAccessible(true);
                return m;
            }
        }
        throw new IllegalStateException(owner + " has no " + name);
    }

    private boolean runOnce(int r) throws Exception {
        StringPuppets x = new StringPuppets();
        PuppetModel model = new PuppetModel();
        List<String> told = new ArrayList<>();
        List<Integer> pending = new ArrayList<>();
        boolean writes = r % 4 == 0;
        for (int c = 0; c < CALLS; c++) {
            int n;
            Object[] args;
            if (!pending.isEmpty()) {
                int next = pending.get(0);
                n = next == -2 ? 3 : next == -1 ? 4 : 2;
                args = next < 0 ? new Object[0] : new Object[] {next};
                pending.remove(0);
            } else {
                n = choose(r, c);
                args = arguments(n, model);
                if (writes && random.nextInt(12) == 0) {
                    fill(pending);
                }
            }
            long due = ((Number) models[n].invoke(model, args)).longValue();
            long got = ((Number) ours[n].invoke(x, args)).longValue();
            told.add(NAMES[n] + java.util.Arrays.toString(args) + " = " + due);
            count(n, due);
            if (got != due || x.digest() != model.digest()) {
                System.out.println("run " + r + ": " + String.join("\n", told) + "\nanswered " + got);
                return false;
            }
        }
        return true;
    }

    private void count(int n, long due) {
        if (due <= PuppetModel.BAD && due >= PuppetModel.FULL) {
            return;
        }
        answered[n]++;
        if (NAMES[n].equals("read") && due > 3) {
            puppetsRead++;
        }
    }

    private int choose(int r, int c) {
        if (c < 3 + r % 8) {
            return 1;
        }
        int dice = random.nextInt(10);
        if (dice < 3) {
            return 5;
        }
        if (dice == 3) {
            return new int[] {6, 7, 8, 10, 15, 16, 13}[random.nextInt(7)];
        }
        int n = random.nextInt(NAMES.length);
        return n == 0 && random.nextInt(5) != 0 ? 12 : n;
    }

    /** A text of pieces that mostly fit, then read. */
    private void fill(List<Integer> pending) {
        StringBuilder text = new StringBuilder(random.nextInt(8) == 0 ? "" : "puppet " + random.nextInt(43) + ";");
        if (random.nextInt(3) == 0) {
            text.append("limb 0 4 9 9 8;move 3 3 3 3 3 3 3 3 3;tie 0;");
        }
        int pieces = random.nextInt(8);
        for (int p = 0; p < pieces; p++) {
            text.append(random.nextInt(12) == 0 ? WORDS[random.nextInt(WORDS.length)] : item(p));
        }
        pending.add(-2);
        for (int k = 0; k < text.length(); k++) {
            pending.add((int) text.charAt(k));
        }
        pending.add(-1);
    }

    private String item(int limbs) {
        int dice = random.nextInt(10);
        if (limbs == 0 || dice < 4) {
            return "limb " + random.nextInt(6) + " " + random.nextInt(6) + " " + (1 + random.nextInt(9)) + " "
                + (1 + random.nextInt(20)) + " " + random.nextInt(9) + ";";
        }
        if (dice < 7) {
            return "move " + "4 4 3 3 3 0 1 2 2".substring(2 * random.nextInt(8)) + ";";
        }
        return dice == 7 ? "tie" + random.nextInt(2) + ";" : "hang " + random.nextInt(2) + " " + random.nextInt(9) + " ;";
    }

    private Object[] arguments(int n, PuppetModel model) {
        int count = ours[n].getParameterCount();
        Object[] args = new Object[count];
        for (int k = 0; k < count; k++) {
            args[k] = random.nextInt(40) == 0 ? WILD[random.nextInt(WILD.length)] : ordinary(NAMES[n], k);
        }
        if (random.nextInt(4) != 0) {
            makeTrue(NAMES[n], args, model);
        }
        return args;
    }

    /** What was seen, noted, marked by chance alone fits nothing: mostly it tells of some weight or kind. */
    private void makeTrue(String name, Object[] args, PuppetModel model) {
        int[] v = new int[args.length];
        for (int k = 0; k < v.length; k++) {
            v[k] = (Integer) args[k];
            if (Math.abs((long) v[k]) > 1000) {
                return;
            }
        }
        int some = v.length == 0 ? 0 : Math.abs(v[0]) % 6;
        if (name.equals("note")) {
            args[4] = PuppetModel.STRINGS[random.nextBoolean() ? some : between(0, 5)].drop(v[1], v[2], v[3]);
        } else if (name.equals("mark")) {
            args[3] = PuppetModel.LIMBS[random.nextBoolean() ? some : between(0, 5)].high(v[1], v[2]);
        } else if (name.equals("seen") && v[0] >= 0 && v[0] < model.s.hung.limbs.size()) {
            PuppetModel.Limb limb = model.s.hung.limbs.get(v[0]);
            args[3] = PuppetModel.LIMBS[limb.kind].high(v[2] - PuppetModel.STRINGS[limb.string].drop(v[1], limb.weight, 0), 0);
        }
    }

    private int between(int least, int most) {
        return least + random.nextInt(most - least + 1);
    }

    private int ordinary(String name, int k) {
        switch (name) {
            case "puppet": return between(0, 40);
            case "limb": return new int[] {between(0, 5), between(0, 5), between(1, 9), between(1, 20), between(0, 8)}[k];
            case "type": return between(0, 127);
            case "moves": return between(0, 9) > 6 ? 3 : between(0, 4);
            case "of": return k == 0 ? between(0, 6) : between(0, 7);
            case "hangs": return k == 0 ? between(0, 6) : between(0, 8);
            case "touch": return between(-1, 3);
            case "few": return new int[] {between(0, 6), high(), between(-1, 5)}[k];
            case "both": return k % 2 == 0 ? between(0, 6) : high();
            case "hole": return new int[] {between(0, 6), between(-40, 60), between(0, 1)}[k];
            case "beat": return new int[] {between(0, 7), between(0, 4), high()}[k];
            case "seen": return new int[] {between(0, 3), between(1, 20), between(0, 60), between(-5, 30)}[k];
            case "note": return new int[] {between(0, 3), between(1, 20), between(1, 9), between(0, 99), between(1, 24)}[k];
            case "mark": return new int[] {between(0, 3), between(-3, 12), between(0, 3), between(-1, 9)}[k];
            case "hands": return k < 2 ? between(0, 6) : between(-1, 2);
            case "slack": return k == 0 ? between(0, 6) : between(0, 10);
            case "nights": return k == 0 ? between(0, 999999) : between(0, 60);
            case "heavy": case "forget": case "status": return k == 0 && name.equals("heavy") ? between(0, 3) : between(0, 2);
            case "part": case "image": case "from": return between(0, 1);
            case "count": return between(0, 10);
            default: return between(0, 6);
        }
    }

    private int high() {
        int dice = random.nextInt(6);
        return dice == 0 ? -20 : dice == 1 ? between(-40, 60) : between(-3, 25);
    }
}
