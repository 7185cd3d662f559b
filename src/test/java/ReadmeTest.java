import java.io.IOException;
import java.lang.reflect.InvocationTargetException;
import java.lang.reflect.Method;
import java.lang.reflect.Modifier;
import java.nio.file.Files;
import java.nio.file.Path;
import java.util.ArrayList;
import java.util.List;
import java.util.regex.Matcher;
import java.util.regex.Pattern;

/** README.md tells the truth: its run of calls answers as it says, its tell() is the one used here. */
public final class ReadmeTest {
    private static final Path README = Path.of("README.md");
    private static final Path SELF = Path.of("src/test/java/ReadmeTest.java");
    private static final Pattern TELL = Pattern.compile("tell\\(x, \"([^\"]*)\"\\); *// (\\w+):.*");
    private static final Pattern CALL = Pattern.compile("x\\.(\\w+)\\(([-\\d, ]*)\\);(?: *// (-?\\w+):.*)?");
    private static final String NEW = "DancedPacts x = new DancedPacts();";
    private static final int FEWEST_CALLS = 20;

    private static int wrong = 0;
    private static int ran = 0;
    private static DancedPacts x = new DancedPacts();

    public static void main(String[] args) throws IOException, ReflectiveOperationException {
        Watchdog.start();
        List<List<String>> blocks = javaBlocks();
        if (blocks.size() != 2) {
            tellWrong(blocks.size() + " blocks of Java, due are 2");
        } else {
            checkTell(blocks.get(0));
            for (String line : blocks.get(1)) {
                runLine(line);
            }
        }
        checkCallsAreNamed();
        if (ran < FEWEST_CALLS) {
            tellWrong("only " + ran + " calls were run");
        }
        if (wrong != 0) {
            System.exit(1);
        }
        System.out.println("README.md is true in " + ran + " calls");
    }

    static int tell(DancedPacts x, String text) {
        for (int i = 0; i < text.length(); i += 20) {
            int[] four = new int[5];
            for (int k = 0; k < 20; k++) {
                int b = i + k < text.length() ? text.charAt(i + k) : ' ';
                four[k / 4] = four[k / 4] << 8 | b & 255;
            }
            x.feed(four[0], four[1], four[2], four[3], four[4]);
        }
        return x.ball(text.length());
    }

    private static void tellWrong(String what) {
        wrong++;
        System.out.println(what);
    }

    private static List<List<String>> javaBlocks() throws IOException {
        List<List<String>> blocks = new ArrayList<>();
        boolean inside = false;
        for (String line : Files.readAllLines(README)) {
            if (line.startsWith("```")) {
                inside = line.equals("```java");
                if (inside) {
                    blocks.add(new ArrayList<>());
                }
            } else if (inside) {
                blocks.get(blocks.size() - 1).add(line);
            }
        }
        return blocks;
    }

    private static void checkTell(List<String> told) throws IOException {
        String indented = "    " + String.join("\n    ", told);
        if (!Files.readString(SELF).contains("\n" + indented + "\n")) {
            tellWrong("tell() of README.md is not the one that is tested");
        }
    }

    private static void runLine(String line) throws ReflectiveOperationException {
        Matcher telling = TELL.matcher(line);
        Matcher calling = CALL.matcher(line);
        if (line.equals(NEW)) {
            x = new DancedPacts();
        } else if (telling.matches()) {
            due(line, telling.group(2), String.valueOf(tell(x, telling.group(1))));
        } else if (calling.matches()) {
            String got = answerOf(calling.group(1), calling.group(2));
            due(line, String.valueOf(calling.group(3)), got);
        } else {
            tellWrong("a line that is no call with its answer: " + line);
        }
    }

    private static void due(String line, String want, String got) {
        ran++;
        if (!want.equals(got)) {
            tellWrong(got + " is answered by: " + line);
        }
    }

    private static String answerOf(String name, String numbers) throws ReflectiveOperationException {
        String[] told = numbers.isEmpty() ? new String[0] : numbers.split(", ");
        Object[] values = new Object[told.length];
        for (int i = 0; i < told.length; i++) {
            values[i] = Integer.valueOf(told[i]);
        }
        for (Method m : DancedPacts.class.getDeclaredMethods()) {
            if (m.getName().equals(name) && m.getParameterCount() == told.length) {
                try {
                    return String.valueOf(m.invoke(x, values));
                } catch (InvocationTargetException e) {
                    return e.getCause().getClass().getSimpleName();
                }
            }
        }
        return "no such call";
    }

    private static void checkCallsAreNamed() throws IOException {
        String readme = Files.readString(README);
        for (Method m : DancedPacts.class.getDeclaredMethods()) {
            if (Modifier.isPublic(m.getModifiers()) && !readme.contains("`" + m.getName() + "`")) {
                tellWrong("README.md does not name " + m.getName());
            }
        }
    }
}
