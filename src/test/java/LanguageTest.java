import java.io.IOException;
import java.lang.reflect.Constructor;
import java.lang.reflect.Field;
import java.lang.reflect.Method;
import java.lang.reflect.Modifier;
import java.nio.charset.StandardCharsets;
import java.nio.file.Files;
import java.nio.file.Path;
import java.util.Set;
import java.util.TreeSet;
import java.util.regex.Matcher;
import java.util.regex.Pattern;

/** The rules of LANGUAGE.md that can be seen in the source of the class, by their numbers. */
public final class LanguageTest {
    private static final Path SOURCE = Path.of("src/main/java/DancedPacts.java");
    private static final int MOST_PARAMETERS = 7;
    private static final int MOST_LINES = 60;
    private static final int MOST_CLASSES = 12;
    private static final int MOST_FIELDS = 20;

    private static final Set<String> EXCEPTIONS = Set.of("IllegalStateException",
            "IllegalArgumentException", "IndexOutOfBoundsException", "ArithmeticException",
            "UnsupportedOperationException", "NoSuchElementException", "RuntimeException");
    private static final Set<String> LIBRARY = Set.of("String", "StringBuilder", "Integer", "Long",
            "Math", "System", "Arrays", "ArrayList", "List", "Iterator", "Iterable", "Comparable");
    private static final Set<String> IMPORTS = Set.of("Arrays", "ArrayList", "List", "Iterator",
            "NoSuchElementException");
    private static final Set<String> STATIC_TYPES = Set.of("int", "long", "boolean", "char",
            "java.lang.String", "[I", "[J", "[C", "[B");

    private static int wrong = 0;

    private LanguageTest() {
    }

    public static void main(String[] args) throws IOException {
        String source = Files.readString(SOURCE, StandardCharsets.ISO_8859_1);
        String code = withoutTexts(source);
        checkSigns(source);
        checkNames(code);
        checkWords(code);
        checkThrows(code);
        checkLoops(code);
        checkLengths(code);
        checkMembers(DancedPacts.class);
        Class<?>[] inside = DancedPacts.class.getDeclaredClasses();
        for (Class<?> c : inside) {
            checkMembers(c);
        }
        due(11, "classes", inside.length + 1 <= MOST_CLASSES);
        if (wrong != 0) {
            System.exit(1);
        }
        System.out.println("the language is kept to");
    }

    private static void due(int rule, String what, boolean holds) {
        if (!holds) {
            wrong++;
            System.out.println("rule " + rule + ": " + what);
        }
    }

    /** Comments are gone, each text is "" and each sign is ' ', so that only code is looked at. */
    private static String withoutTexts(String source) {
        return source.replaceAll("(?s)/\\*.*?\\*/", "").replaceAll("//[^\n]*", "")
                .replaceAll("'(\\\\.|[^'\\\\])'", "' '").replaceAll("\"(\\\\.|[^\"\\\\])*\"", "\"\"");
    }

    private static void checkSigns(String source) {
        boolean plain = true;
        for (int i = 0; i < source.length(); i++) {
            char c = source.charAt(i);
            plain &= c == '\n' || c >= ' ' && c < 127;
        }
        due(4, "a sign that is not 1 to 127", plain);
    }

    private static Set<String> allOf(String pattern, String code) {
        Set<String> found = new TreeSet<>();
        Matcher m = Pattern.compile(pattern).matcher(code);
        while (m.find()) {
            found.add(m.group(1));
        }
        return found;
    }

    /** Names of classes are the document's, those of classes inside, or of the library's part. */
    private static void checkNames(String code) {
        due(1, "a package", !Pattern.compile("(?m)^\\s*package\\b").matcher(code).find());
        for (String imported : allOf("import\\s+([\\w.* ]+);", code)) {
            String name = imported.replace("java.util.", "");
            due(4, "import " + imported, IMPORTS.contains(name));
        }
        Set<String> own = allOf("\\b(?:class|interface|enum|record)\\s+(\\w+)", code);
        for (String name : allOf("\\b([A-Z]\\w*[a-z]\\w*)\\b", code)) {
            due(4, name, own.contains(name) || LIBRARY.contains(name) || EXCEPTIONS.contains(name));
        }
        due(4, "System", Set.of("arraycopy").containsAll(allOf("\\bSystem\\.(\\w+)", code)));
        due(4, "Arrays", Set.of("copyOf", "copyOfRange", "fill").containsAll(allOf("\\bArrays\\.(\\w+)", code)));
        due(4, "..Exact", allOf("\\b(\\w+Exact)\\b", code).isEmpty());
    }

    private static void checkWords(String code) {
        due(2, "a lambda", !code.contains("->"));
        due(2, "a method reference", !code.contains("::"));
        due(3, "a wider array", !Pattern.compile("\\]\\s*\\[\\s*\\]\\s*\\[").matcher(code).find());
        for (String word : new String[] {"finally", "synchronized", "assert", "volatile", "transient", "native",
            "getMessage", "hashCode", "toString", "getClass", "printStackTrace", "var", "yield"}) {
            due(6, word, !Pattern.compile("\\b" + word + "\\b").matcher(code).find());
        }
        due(5, "a static block", !Pattern.compile("\\bstatic\\s*\\{").matcher(code).find());
        due(10, "texts joined by +", !Pattern.compile("\"\"\\s*\\+|\\+\\s*\"\"").matcher(code).find());
    }

    /** No exception is caught here at all, so that none of the machine's own can be. */
    private static void checkThrows(String code) {
        due(6, "a catch", !Pattern.compile("\\b(try|catch)\\b").matcher(code).find());
        Matcher m = Pattern.compile("\\bthrow\\b\\s*([^;]*);").matcher(code);
        while (m.find()) {
            Matcher made = Pattern.compile("new (\\w+)\\((\"\")?\\)").matcher(m.group(1));
            due(6, "throw " + m.group(1), made.matches() && EXCEPTIONS.contains(made.group(1)));
        }
    }

    /** Each loop counts against a bound that stands in its own head. */
    private static void checkLoops(String code) {
        due(9, "a while", !Pattern.compile("\\b(while|do)\\b").matcher(code).find());
        Pattern loop = Pattern.compile("\\bfor\\s*\\(([^;{]*;[^;{]*;[^;{]*)\\)\\s*\\{");
        Pattern counts = Pattern.compile("int (\\w+) = [^;]+; \\1 (<=? .*; \\1(\\+\\+| \\+= \\d+)|>=? .*; \\1(--| -= \\d+))");
        Matcher m = loop.matcher(code);
        int loops = 0;
        while (m.find()) {
            loops++;
            due(9, "for (" + m.group(1) + ")", counts.matcher(m.group(1)).matches());
        }
        due(9, "loops that were looked at", loops > 0 && loops == countOf("\\bfor\\b", code));
    }

    private static int countOf(String pattern, String code) {
        return (int) Pattern.compile(pattern).matcher(code).results().count();
    }

    /** A method begins with a head that ends in a brace, and ends where that brace does. */
    private static void checkLengths(String code) {
        Matcher m = Pattern.compile("(?m)^ +(?!if|for|else|switch|return|new)[\\w\\[\\] ]+\\([^;{}]*\\)[\\w, \\n]*\\{").matcher(code);
        int methods = 0;
        while (m.find()) {
            methods++;
            int open = 1;
            int i = m.end();
            for (; i < code.length() && open > 0; i++) {
                open += code.charAt(i) == '{' ? 1 : code.charAt(i) == '}' ? -1 : 0;
            }
            long lines = code.substring(m.start(), i).lines().count();
            due(11, lines + " lines: " + m.group().strip(), lines <= MOST_LINES);
        }
        due(11, "methods that were looked at", methods > 100);
    }

    private static void checkMembers(Class<?> c) {
        boolean face = c == DancedPacts.class;
        due(1, c.getName() + " is static", face || Modifier.isStatic(c.getModifiers()));
        int fields = 0;
        for (Field f : c.getDeclaredFields()) {
            if (Modifier.isStatic(f.getModifiers())) {
                due(5, c.getName() + "." + f.getName(), Modifier.isFinal(f.getModifiers())
                        && STATIC_TYPES.contains(f.getType().getName()));
            } else {
                fields++;
            }
        }
        due(11, fields + " fields of " + c.getName(), fields <= MOST_FIELDS);
        for (Method m : c.getDeclaredMethods()) {
            due(11, c.getName() + "." + m.getName(), m.getParameterCount() <= MOST_PARAMETERS);
        }
        for (Constructor<?> k : c.getDeclaredConstructors()) {
            due(11, c.getName() + "()", k.getParameterCount() <= MOST_PARAMETERS);
        }
    }
}
