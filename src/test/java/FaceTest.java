import java.io.IOException;
import java.lang.management.ManagementFactory;
import java.lang.reflect.Constructor;
import java.lang.reflect.Method;
import java.lang.reflect.Modifier;
import java.nio.file.Files;
import java.nio.file.Path;
import java.util.Arrays;
import java.util.Random;
import java.util.Set;
import java.util.TreeSet;

/** The public face, what a run allocates, and calls of every kind. */
public final class FaceTest {
    private static final String ARGUMENT = "IllegalArgumentException";
    private static final String STATE = "IllegalStateException";
    private static final String[] FACE = {
        "boolean write(char)",
        "int advance(int)",
        "int type(int, boolean) " + ARGUMENT + " " + STATE,
        "boolean begin(int)",
        "int commit(int, int, int, int, int)",
        "int flush()",
        "int record() " + STATE,
        "int settings(int) " + ARGUMENT + " " + STATE,
        "int profile()",
        "int start(int) " + ARGUMENT + " " + STATE,
        "int stop(int) " + ARGUMENT + " " + STATE,
        "boolean close(int) " + ARGUMENT + " " + STATE,
        "int dump(int) " + ARGUMENT + " " + STATE,
        "int output(int)",
        "int state(int)",
        "int threshold(int, int)",
        "int buffered(int)",
        "int count(int)",
        "int lost(int)"};
    private static final int WILD_CALLS = 5000;
    private static final Check check = new Check();

    public static void main(String[] args) throws IOException {
        face();
        linesOfTheDocument();
        allocation();
        wildCalls();
        check.end();
    }

    private static void face() {
        check.in("the public face");
        Class<?> type = EventRecorder.class;
        check.yes("public and final", Modifier.isPublic(type.getModifiers()) && Modifier.isFinal(type.getModifiers()));
        Set<String> found = new TreeSet<>();
        Set<String> privateNames = new TreeSet<>();
        for (Method method : type.getDeclaredMethods()) {
            if (Modifier.isPublic(method.getModifiers())) {
                found.add(described(method));
                check.no(method.getName() + " is static", Modifier.isStatic(method.getModifiers()));
            } else {
                check.yes(method.getName() + " is private", Modifier.isPrivate(method.getModifiers()));
                privateNames.add(method.getName());
            }
        }
        check.yes("methods " + found, found.equals(new TreeSet<>(Arrays.asList(FACE))));
        for (String line : FACE) {
            String name = line.substring(line.indexOf(' ') + 1, line.indexOf('('));
            check.no("a private method with the name " + name, privateNames.contains(name));
        }
        Constructor<?>[] constructors = type.getDeclaredConstructors();
        check.due("constructors", constructors.length, 1);
        check.yes("constructor is public", Modifier.isPublic(constructors[0].getModifiers()));
        check.yes("constructor's parameters",
            Arrays.equals(constructors[0].getParameterTypes(), new Class<?>[] {int.class, int.class, int.class}));
    }

    private static String described(Method method) {
        StringBuilder line = new StringBuilder(method.getReturnType() + " " + method.getName() + "(");
        for (Class<?> parameter : method.getParameterTypes()) {
            line.append(line.charAt(line.length() - 1) == '(' ? "" : ", ").append(parameter);
        }
        line.append(')');
        for (Class<?> exception : method.getExceptionTypes()) {
            line.append(' ').append(exception.getSimpleName());
        }
        return line.toString();
    }

    /** The document's own lines stand in the source, with a body in the place of the last sign. */
    private static void linesOfTheDocument() throws IOException {
        check.in("the document's public face");
        String source = Files.readString(Path.of("src/main/java/EventRecorder.java"));
        int lines = 0;
        for (String line : Files.readAllLines(Path.of("../shared/DOC.md"))) {
            if (line.startsWith("public final class ") || line.startsWith("    public ")) {
                lines++;
                String due = line.endsWith(");") || line.contains(") throws ")
                    ? line.substring(0, line.length() - 1) + " {" : line;
                check.yes("'" + due + "' in the source", source.contains(due + "\n"));
            }
        }
        // The class, its constant and its constructor stand there too.
        check.due("lines of the public face", lines, FACE.length + 3);
        check.due("NONE", EventRecorder.NONE, -1);
    }

    /** All calls of a run share one room, so a call that is made often must not make rows of its own. */
    private static void allocation() {
        check.in("what a run allocates");
        var threads = (com.sun.management.ThreadMXBean) ManagementFactory.getThreadMXBean();
        long least = Long.MAX_VALUE;
        for (int k = 0; k < 3; k++) {
            long before = threads.getCurrentThreadAllocatedBytes();
            fullRun();
            least = Math.min(least, threads.getCurrentThreadAllocatedBytes() - before);
        }
        check.yes("at most 100,000 bytes in a run, was " + least, least <= 100_000);
    }

    private static void fullRun() {
        EventRecorder x = new EventRecorder(60, 4, 5);
        x.type(3, true);
        x.record();
        x.start(0);
        for (int k = 0; k < 127; k++) {
            x.write((char) (97 + k % 24));
            x.begin(k % 3);
            x.commit(k % 3, 0, k, Integer.MAX_VALUE, Integer.MIN_VALUE);
            x.dump(0);
        }
    }

    private static void wildCalls() {
        check.in("calls of every kind");
        for (int seed = 0; seed < 40; seed++) {
            Random random = new Random(seed);
            EventRecorder x = new EventRecorder(wild(random), wild(random), wild(random));
            for (int k = 0; k < WILD_CALLS; k++) {
                int what = random.nextInt(FACE.length);
                try {
                    call(x, what, random);
                } catch (RuntimeException e) {
                    boolean promised = FACE[what].endsWith(" " + e.getClass().getSimpleName())
                        || FACE[what].contains(" " + e.getClass().getSimpleName() + " ");
                    check.yes("seed " + seed + ": " + FACE[what] + " threw " + e, promised);
                }
            }
        }
    }

    private static void call(EventRecorder x, int what, Random random) {
        switch (what) {
            case 0 -> x.write((char) wild(random));
            case 1 -> x.advance(wild(random));
            case 2 -> x.type(wild(random), random.nextBoolean());
            case 3 -> x.begin(wild(random));
            case 4 -> x.commit(wild(random), wild(random), wild(random), wild(random), wild(random));
            case 5 -> x.flush();
            case 6 -> x.record();
            case 7 -> x.settings(wild(random));
            case 8 -> x.profile();
            case 9 -> x.start(wild(random));
            case 10 -> x.stop(wild(random));
            case 11 -> {
                // A closed recording never runs again: late, so that much is recorded before.
                if (random.nextInt(100) == 0) {
                    x.close(wild(random));
                }
            }
            case 12 -> x.dump(wild(random));
            case 13 -> x.output(wild(random));
            case 14 -> x.state(wild(random));
            case 15 -> x.threshold(wild(random), wild(random));
            case 16 -> x.buffered(wild(random));
            case 17 -> x.count(wild(random));
            default -> x.lost(wild(random));
        }
    }

    private static int wild(Random random) {
        return switch (random.nextInt(8)) {
            case 0 -> random.nextInt();
            case 1 -> random.nextBoolean() ? Integer.MIN_VALUE : Integer.MAX_VALUE;
            case 2 -> "0123+-,:|".charAt(random.nextInt(9));
            case 3 -> random.nextInt(1200) - 100;
            default -> random.nextInt(4);
        };
    }
}
