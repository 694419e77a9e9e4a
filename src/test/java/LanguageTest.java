import java.lang.management.ManagementFactory;
import java.lang.reflect.Constructor;
import java.lang.reflect.Field;
import java.lang.reflect.Method;
import java.lang.reflect.Modifier;
import java.nio.file.Files;
import java.nio.file.Path;
import java.util.Set;
import java.util.TreeSet;
import java.util.regex.Matcher;
import java.util.regex.Pattern;

/** What can be tested of LANGUAGE.md by looking at the source and the class, and that no call makes objects. */
public final class LanguageTest {
    private static final Path SOURCE = Path.of("src/main/java/StringPuppets.java");
    private static final String[] FACE = {
        "int puppet(int)", "int limb(int,int,int,int,int)", "int type(int)", "int clear()", "int read()", "int moves(int)",
        "int ties(int)", "int hangs(int,int)", "int undo()", "int of(int,int)", "int touch(int)", "int safe(int)",
        "int few(int,int,int)", "int both(int,int,int,int)", "int hole(int,int,int)", "int beat(int,int,int)",
        "int dance(int)", "int comesOut()", "int snaps()", "int seen(int,int,int,int)", "int heavy(int,int)", "int tell(int)",
        "int note(int,int,int,int,int)", "int mark(int,int,int,int)", "int forget(int)", "int is(int)", "int look(int)",
        "int kinds(int)", "int ask(int)", "int hands(int,int,int)", "int slack(int,int)", "int nights(int,int)",
        "long part(int)", "int image(int)", "int from(int)", "int status(int)", "int count(int)", "long digest()"};
    private static final String FORBIDDEN =
        "\\b(throw|throws|try|catch|finally|synchronized|assert|import|package|protected|record|System|\\w*Exact|Object"
        + "|hashCode|toString|native|volatile|transient|double|float)\\b|->|::|@|\"\\s*\\+|\\+\\s*\"|while \\(true|for \\(;";
    private static final Set<String> LIBRARY = Set.of("Integer.bitCount", "Math.abs", "Math.max", "Math.min");
    private static int wrong = 0;

    public static void main(String[] args) throws Exception {
        String code = withoutComments(Files.readString(SOURCE));
        source(code);
        face();
        Set<String> names = new TreeSet<>();
        for (Method m : StringPuppets.class.getDeclaredMethods()) {
            if (Modifier.isPublic(m.getModifiers())) {
                names.add(m.getName());
            }
        }
        members(StringPuppets.class, names);
        Class<?>[] inside = StringPuppets.class.getDeclaredClasses();
        expect(inside.length <= 12, "12: too many classes");
        for (Class<?> c : inside) {
            expect(Modifier.isStatic(c.getModifiers()) && !Modifier.isPublic(c.getModifiers()), "2: " + c);
            members(c, names);
        }
        makesNothing();
        System.out.println(wrong == 0 ? "the language is kept to" : wrong + " rules broken");
        if (wrong != 0) {
            System.exit(1);
        }
    }

    private static void expect(boolean holds, String rule) {
        if (!holds) {
            wrong++;
            System.out.println("broken: " + rule);
        }
    }

    private static String withoutComments(String code) {
        return code.replaceAll("(?s)/\\*.*?\\*/", "").replaceAll("//[^\\n]*", "");
    }

    private static void source(String code) {
        Matcher m = Pattern.compile(FORBIDDEN).matcher(code);
        while (m.find()) {
            expect(false, "the source has " + m.group());
        }
        Matcher called = Pattern.compile("\\b[A-Z]\\w*\\.\\w+(?=\\()").matcher(code);
        while (called.find()) {
            expect(LIBRARY.contains(called.group()), "4: the source calls " + called.group());
        }
        boolean inMethod = false;
        int lines = 0;
        for (String line : code.split("\n")) {
            if (line.matches(" {4}( {4})?(public|private) .*[(].*")) {
                inMethod = !line.endsWith(";");
                lines = 0;
            } else if (line.matches(" {4}( {4})?}")) {
                inMethod = false;
            }
            lines++;
            expect(!inMethod || lines <= 60, "11: a long method, at " + line);
            expect(line.length() <= 125, "a long line: " + line);
        }
    }

    private static void face() {
        Set<String> due = new TreeSet<>(java.util.List.of(FACE));
        Set<String> got = new TreeSet<>();
        for (Method m : StringPuppets.class.getDeclaredMethods()) {
            if (!Modifier.isPrivate(m.getModifiers())) {
                StringBuilder parameters = new StringBuilder();
                for (Class<?> p : m.getParameterTypes()) {
                    parameters.append(parameters.length() == 0 ? "" : ",").append(p);
                }
                got.add(m.getReturnType() + " " + m.getName() + "(" + parameters + ")");
            }
        }
        expect(got.equals(due), "1: the face is " + got);
        Constructor<?>[] made = StringPuppets.class.getDeclaredConstructors();
        expect(made.length == 1 && Modifier.isPublic(made[0].getModifiers()) && made[0].getParameterCount() == 0, "1: constructor");
        expect(Modifier.isFinal(StringPuppets.class.getModifiers()), "1: final");
    }

    private static void members(Class<?> owner, Set<String> publicNames) {
        int held = 0;
        for (Field f : owner.getDeclaredFields()) {
            boolean constant = Set.of("NONE", "BAD", "NO", "FULL").contains(f.getName()) && owner == StringPuppets.class;
            expect(constant || Modifier.isPrivate(f.getModifiers()), "1: " + f);
            if (Modifier.isStatic(f.getModifiers())) {
                expect(Modifier.isFinal(f.getModifiers()), "5: " + f);
            } else {
                held++;
            }
        }
        expect(held <= 20, "11: fields of " + owner);
        for (Method m : owner.getDeclaredMethods()) {
            expect(m.getParameterCount() <= 7, "11: " + m);
            if (!Modifier.isPublic(m.getModifiers())) {
                expect(!publicNames.contains(m.getName()), "1: the name of " + m);
            }
        }
    }

    /** All calls of a run live in one room: what they make must stay small, here nothing at all. */
    private static void makesNothing() {
        com.sun.management.ThreadMXBean bean = (com.sun.management.ThreadMXBean) ManagementFactory.getThreadMXBean();
        long thread = Thread.currentThread().getId();
        everyCall(new StringPuppets());
        StringPuppets x = new StringPuppets();
        bean.getThreadAllocatedBytes(thread);
        long before = bean.getThreadAllocatedBytes(thread);
        for (int k = 0; k < 4; k++) {
            everyCall(x);
        }
        long made = bean.getThreadAllocatedBytes(thread) - before;
        expect(made < 64, "12: calls made " + made + " bytes");
    }

    private static void everyCall(StringPuppets x) {
        String text = "puppet 20;limb 4 4 9 10 3;limb 1 1 3 5 7;move 0 1 2 3;hang 0 5;";
        x.clear();
        for (int k = 0; k < text.length(); k++) {
            x.type(text.charAt(k));
        }
        x.read();
        x.puppet(20);
        x.limb(0, 4, 9, 10, 3);
        x.limb(4, 1, 3, 5, 7);
        x.moves(0);
        x.hangs(0, 5);
        x.undo();
        x.ties(0);
        x.of(0, 7);
        x.touch(0);
        x.safe(1);
        x.few(0, -40, -1);
        x.both(0, -40, 1, 60);
        x.hole(0, 10, 0);
        x.beat(0, 0, 0);
        x.dance(1);
        x.comesOut();
        x.snaps();
        x.seen(0, 10, 30, 17);
        x.heavy(0, 1);
        x.tell(0);
        x.note(0, 1, 1, 1, 1);
        x.mark(0, 1, 1, 1);
        x.is(0);
        x.look(0);
        x.kinds(0);
        x.ask(0);
        x.forget(0);
        x.hands(0, 1, 0);
        x.slack(6, 3);
        x.nights(5, 60);
        x.part(0);
        x.image(0);
        x.from(0);
        x.status(0);
        x.count(0);
        x.digest();
    }
}
