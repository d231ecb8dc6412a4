import java.io.IOException;
import java.lang.management.ManagementFactory;
import java.lang.reflect.Constructor;
import java.lang.reflect.Field;
import java.lang.reflect.Method;
import java.lang.reflect.Modifier;
import java.nio.file.Files;
import java.nio.file.Path;
import java.util.Arrays;
import java.util.Random;
import java.util.Set;
import java.util.TreeSet;

/** The public face, the rules of the language that can be seen from outside, and calls of every kind. */
public final class FaceTest {
    private static final String ARGUMENT = "IllegalArgumentException";
    private static final String STATE = "IllegalStateException";
    private static final String[] FACE = {
        "boolean write(char)",
        "int advance(int)",
        "int type(int, boolean) " + ARGUMENT + " " + STATE,
        "boolean begin(int)",
        "int commit(int, int, int, int, int)",
        "int flush()",
        "int record() " + STATE,
        "int settings(int) " + ARGUMENT + " " + STATE,
        "int profile()",
        "int start(int) " + ARGUMENT + " " + STATE,
        "int stop(int) " + ARGUMENT + " " + STATE,
        "boolean close(int) " + ARGUMENT + " " + STATE,
        "int dump(int) " + ARGUMENT + " " + STATE,
        "int output(int)",
        "int state(int)",
        "int threshold(int, int)",
        "int buffered(int)",
        "int count(int)",
        "int lost(int)"};
    private static final String[] NOT_IN_THE_SOURCE = {"package ", "->", "::", "finally", "synchronized",
        "assert ", "getMessage", "Exact(", "@", "static {", "\" +", "+ \"", "System.out", "interface "};
    private static final int WILD_CALLS = 5000;
    private static final Check check = new Check();

    public static void main(String[] args) throws IOException {
        face();
        classes();
        source();
        allocation();
        wildCalls();
        check.end();
    }

    private static void face() {
        check.in("the public face");
        Class<?> type = EventRecorder.class;
        check.yes("public and final", Modifier.isPublic(type.getModifiers()) && Modifier.isFinal(type.getModifiers()));
        Set<String> found = new TreeSet<>();
        Set<String> privateNames = new TreeSet<>();
        for (Method method : type.getDeclaredMethods()) {
            if (Modifier.isPublic(method.getModifiers())) {
                found.add(described(method));
                check.no(method.getName() + " is static", Modifier.isStatic(method.getModifiers()));
            } else {
                check.yes(method.getName() + " is private", Modifier.isPrivate(method.getModifiers()));
                privateNames.add(method.getName());
            }
        }
        check.yes("methods " + found, found.equals(new TreeSet<>(Arrays.asList(FACE))));
        for (String line : FACE) {
            String name = line.substring(line.indexOf(' ') + 1, line.indexOf('('));
            check.no("a private method with the name " + name, privateNames.contains(name));
        }
        Constructor<?>[] constructors = type.getDeclaredConstructors();
        check.due("constructors", constructors.length, 1);
        check.yes("constructor is public", Modifier.isPublic(constructors[0].getModifiers()));
        check.yes("constructor's parameters",
            Arrays.equals(constructors[0].getParameterTypes(), new Class<?>[] {int.class, int.class, int.class}));
    }

    private static String described(Method method) {
        StringBuilder line = new StringBuilder(method.getReturnType() + " " + method.getName() + "(");
        for (Class<?> parameter : method.getParameterTypes()) {
            line.append(line.charAt(line.length() - 1) == '(' ? "" : ", ").append(parameter);
        }
        line.append(')');
        for (Class<?> exception : method.getExceptionTypes()) {
            line.append(' ').append(exception.getSimpleName());
        }
        return line.toString();
    }

    private static void classes() {
        check.in("rules 1, 5 and 11");
        Class<?>[] inside = EventRecorder.class.getDeclaredClasses();
        check.yes("at most twelve classes", inside.length < 12);
        for (Class<?> type : inside) {
            int modifiers = type.getModifiers();
            check.yes(type.getName() + " is static", Modifier.isStatic(modifiers) || type.isEnum() || type.isRecord());
            check.no(type.getName() + " is public", Modifier.isPublic(modifiers) || Modifier.isProtected(modifiers));
            fields(type);
        }
        fields(EventRecorder.class);
    }

    private static void fields(Class<?> type) {
        int many = 0;
        for (Field field : type.getDeclaredFields()) {
            int modifiers = field.getModifiers();
            boolean isNone = type == EventRecorder.class && field.getName().equals("NONE");
            check.due(field + " is private", Modifier.isPrivate(modifiers) ? 1 : 0, isNone ? 0 : 1);
            if (Modifier.isStatic(modifiers)) {
                check.yes(field + " is final", Modifier.isFinal(modifiers));
            } else {
                many++;
            }
        }
        check.yes("at most twenty fields in " + type.getName(), many <= 20);
    }

    private static void source() throws IOException {
        check.in("the source");
        String source = Files.readString(Path.of("src/main/java/EventRecorder.java"));
        for (String words : NOT_IN_THE_SOURCE) {
            check.no("'" + words + "' in the source", source.contains(words));
        }
        check.yes("'public static final int NONE = -1;'", source.contains("    public static final int NONE = -1;\n"));
    }

    /** All calls of a run share one room, so a call that is made often must not make rows of its own. */
    private static void allocation() {
        check.in("what a run allocates");
        var threads = (com.sun.management.ThreadMXBean) ManagementFactory.getThreadMXBean();
        long least = Long.MAX_VALUE;
        for (int k = 0; k < 3; k++) {
            long before = threads.getCurrentThreadAllocatedBytes();
            fullRun();
            least = Math.min(least, threads.getCurrentThreadAllocatedBytes() - before);
        }
        check.yes("at most 100,000 bytes in a run, was " + least, least <= 100_000);
    }

    private static void fullRun() {
        EventRecorder x = new EventRecorder(60, 4, 5);
        x.type(3, true);
        x.record();
        x.start(0);
        for (int k = 0; k < 127; k++) {
            x.write((char) (97 + k % 24));
            x.begin(k % 3);
            x.commit(k % 3, 0, k, Integer.MAX_VALUE, Integer.MIN_VALUE);
            x.dump(0);
        }
    }

    private static void wildCalls() {
        check.in("calls of every kind");
        for (int seed = 0; seed < 40; seed++) {
            Random random = new Random(seed);
            EventRecorder x = new EventRecorder(wild(random), wild(random), wild(random));
            for (int k = 0; k < WILD_CALLS; k++) {
                int what = random.nextInt(FACE.length);
                try {
                    call(x, what, random);
                } catch (RuntimeException e) {
                    boolean promised = FACE[what].endsWith(" " + e.getClass().getSimpleName())
                        || FACE[what].contains(" " + e.getClass().getSimpleName() + " ");
                    check.yes("seed " + seed + ": " + FACE[what] + " threw " + e, promised);
                }
            }
        }
    }

    private static void call(EventRecorder x, int what, Random random) {
        switch (what) {
            case 0 -> x.write((char) wild(random));
            case 1 -> x.advance(wild(random));
            case 2 -> x.type(wild(random), random.nextBoolean());
            case 3 -> x.begin(wild(random));
            case 4 -> x.commit(wild(random), wild(random), wild(random), wild(random), wild(random));
            case 5 -> x.flush();
            case 6 -> x.record();
            case 7 -> x.settings(wild(random));
            case 8 -> x.profile();
            case 9 -> x.start(wild(random));
            case 10 -> x.stop(wild(random));
            case 11 -> {
                // A closed recording never runs again: late, so that much is recorded before.
                if (random.nextInt(100) == 0) {
                    x.close(wild(random));
                }
            }
            case 12 -> x.dump(wild(random));
            case 13 -> x.output(wild(random));
            case 14 -> x.state(wild(random));
            case 15 -> x.threshold(wild(random), wild(random));
            case 16 -> x.buffered(wild(random));
            case 17 -> x.count(wild(random));
            default -> x.lost(wild(random));
        }
    }

    private static int wild(Random random) {
        return switch (random.nextInt(8)) {
            case 0 -> random.nextInt();
            case 1 -> random.nextBoolean() ? Integer.MIN_VALUE : Integer.MAX_VALUE;
            case 2 -> "0123+-,:|".charAt(random.nextInt(9));
            case 3 -> random.nextInt(1200) - 100;
            default -> random.nextInt(4);
        };
    }
}
