import java.io.DataInputStream;
import java.io.IOException;
import java.io.InputStream;
import java.lang.reflect.Constructor;
import java.lang.reflect.Field;
import java.lang.reflect.Method;
import java.lang.reflect.Modifier;
import java.nio.file.Files;
import java.nio.file.Path;
import java.util.ArrayList;
import java.util.Arrays;
import java.util.List;
import java.util.Set;

/** The rules of LANGUAGE.md that can be seen in the program's source and in what javac makes of it. */
public final class LanguageTest {
    private static final Path SOURCE = Path.of("src/main/java/EventRecorder.java");
    private static final String[] NOT_IN_THE_SOURCE = {"package ", "import ", "->", "::", "try ", "finally",
        "synchronized", "assert ", "getMessage", "Exact(", "@", "static {", "\" +", "+ \"", "System.out", "interface ",
        "while (true", "for (;", "toString", "hashCode", "double", "float"};
    // Of the library that the rules allow, the program uses no more than this.
    private static final Set<String> LIBRARY = Set.of("java/lang/Object.<init>", "java/lang/Math.max",
        "java/lang/Math.min", "java/lang/IllegalArgumentException.<init>", "java/lang/IllegalStateException.<init>");
    private static final int MAX_CLASSES = 12;
    private static final int MAX_FIELDS = 20;
    private static final int MAX_PARAMETERS = 7;
    private static final int MAX_LINES = 60;
    private static final int INVOKE_DYNAMIC = 18;
    private static final Check check = new Check();

    public static void main(String[] args) throws IOException {
        List<Class<?>> all = new ArrayList<>(Arrays.asList(EventRecorder.class.getDeclaredClasses()));
        all.add(EventRecorder.class);
        check.in("rule 11");
        check.yes("at most twelve classes", all.size() <= MAX_CLASSES);
        for (Class<?> type : all) {
            insideClass(type);
            fields(type);
            parameters(type);
            libraryCalls(type);
        }
        words();
        lengthOfMethods();
        check.end();
    }

    private static void insideClass(Class<?> type) {
        check.in("rules 1 and 2");
        if (type == EventRecorder.class) {
            return;
        }
        int modifiers = type.getModifiers();
        check.yes(type.getName() + " is static", Modifier.isStatic(modifiers));
        check.no(type.getName() + " is seen outside", Modifier.isPublic(modifiers) || Modifier.isProtected(modifiers));
    }

    private static void fields(Class<?> type) {
        check.in("rules 1, 5 and 11");
        int many = 0;
        for (Field field : type.getDeclaredFields()) {
            int modifiers = field.getModifiers();
            boolean isNone = type == EventRecorder.class && field.getName().equals("NONE");
            check.due(field + " is private", Modifier.isPrivate(modifiers) ? 1 : 0, isNone ? 0 : 1);
            if (Modifier.isStatic(modifiers)) {
                check.yes(field + " is a constant int", Modifier.isFinal(modifiers) && field.getType() == int.class);
            } else {
                many++;
            }
        }
        check.yes("at most twenty fields in " + type.getName(), many <= MAX_FIELDS);
    }

    private static void parameters(Class<?> type) {
        check.in("rule 11");
        for (Method method : type.getDeclaredMethods()) {
            check.yes("at most seven parameters in " + method, method.getParameterCount() <= MAX_PARAMETERS);
        }
        for (Constructor<?> constructor : type.getDeclaredConstructors()) {
            check.yes("at most seven parameters in " + constructor, constructor.getParameterCount() <= MAX_PARAMETERS);
        }
    }

    /** What a class file calls outside the program stands in its pool of constants. */
    private static void libraryCalls(Class<?> type) throws IOException {
        check.in("rule 4");
        try (InputStream file = type.getResourceAsStream(type.getName() + ".class");
                DataInputStream in = new DataInputStream(file)) {
            in.skipNBytes(8);
            int many = in.readUnsignedShort();
            int[] tags = new int[many];
            int[] first = new int[many];
            int[] second = new int[many];
            String[] texts = new String[many];
            for (int k = 1; k < many; k++) {
                tags[k] = in.readUnsignedByte();
                switch (tags[k]) {
                    case 1 -> texts[k] = in.readUTF();
                    case 3, 4 -> in.readInt();
                    case 5, 6 -> {
                        in.readLong();
                        k++;
                    }
                    case 15 -> in.skipNBytes(3);
                    case 7, 8, 16, 19, 20 -> first[k] = in.readUnsignedShort();
                    default -> {
                        first[k] = in.readUnsignedShort();
                        second[k] = in.readUnsignedShort();
                    }
                }
            }
            for (int k = 1; k < many; k++) {
                check.no("a lambda or a joined text in " + type.getName(), tags[k] == INVOKE_DYNAMIC);
                if (tags[k] >= 9 && tags[k] <= 11) {
                    String owner = texts[first[first[k]]];
                    String call = owner + "." + texts[first[second[k]]];
                    check.yes(call + " in " + type.getName(), owner.startsWith("EventRecorder") || LIBRARY.contains(call));
                }
            }
        }
    }

    private static void words() throws IOException {
        check.in("the source");
        String source = Files.readString(SOURCE);
        for (String words : NOT_IN_THE_SOURCE) {
            check.no("'" + words + "' in the source", source.contains(words));
        }
    }

    /** A method begins where a line ends its head with a brace, and ends at the brace that stands as far in. */
    private static void lengthOfMethods() throws IOException {
        check.in("rule 11");
        List<String> lines = Files.readAllLines(SOURCE);
        int found = 0;
        for (int k = 0; k < lines.size(); k++) {
            String head = lines.get(k);
            String indent = head.substring(0, head.length() - head.stripLeading().length());
            boolean isHead = head.endsWith("{") && head.contains("(") && !head.contains(" class ")
                && (indent.length() == 4 || indent.length() == 8 && !head.stripLeading().matches("(if|for|while|switch|}) .*"));
            if (isHead) {
                int length = lines.subList(k, lines.size()).indexOf(indent + "}") + 1;
                check.yes("at most sixty lines in " + head.strip(), length > 0 && length <= MAX_LINES);
                found++;
            }
        }
        check.yes("methods found in the source, " + found, found >= EventRecorder.class.getDeclaredMethods().length);
    }
}
