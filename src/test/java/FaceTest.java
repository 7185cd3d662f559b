import java.io.IOException;
import java.lang.reflect.Constructor;
import java.lang.reflect.Field;
import java.lang.reflect.Method;
import java.lang.reflect.Modifier;
import java.nio.file.Files;
import java.nio.file.Path;
import java.util.HashSet;
import java.util.Set;
import java.util.TreeSet;

/** The public face is the document's, and no other member can be seen from outside. */
public final class FaceTest {
    private static final String[] FACE = {
        "int act(int,int,int) NoSuchElementException",
        "int again(int) NoSuchElementException",
        "int against(int) NoSuchElementException",
        "int apart(int) NoSuchElementException",
        "int ball(int) IllegalArgumentException",
        "int bound(int,int) NoSuchElementException",
        "boolean breaks(int) NoSuchElementException",
        "int century(int,int,int) NoSuchElementException IllegalArgumentException",
        "int clauses(int,int) NoSuchElementException",
        "int costly(int) NoSuchElementException",
        "int count(int) NoSuchElementException",
        "int dance(int,int) NoSuchElementException",
        "int done(int,int,int) NoSuchElementException",
        "int evenings(int) NoSuchElementException",
        "int fault()",
        "int feed(int,int,int,int,int)",
        "void forget()",
        "int game(int,int,int,int) NoSuchElementException IllegalArgumentException",
        "int help(int) NoSuchElementException",
        "void image()",
        "int inTime(int,int) NoSuchElementException IllegalArgumentException",
        "int knees(int) NoSuchElementException",
        "int later(int) IllegalArgumentException",
        "int limp(int,int) NoSuchElementException",
        "int mend(int,int) NoSuchElementException",
        "boolean restore()",
        "int see(int,int,int,int,int) NoSuchElementException",
        "int step(int,int,int) NoSuchElementException",
        "int stumble(int,int,int) NoSuchElementException",
        "int undo()",
        "int where(int,int,int,int) NoSuchElementException",
        "int years(int)",
    };

    private static int wrong = 0;

    private static void due(String what, Object got, Object want) {
        if (!want.equals(got)) {
            wrong++;
            System.out.println(what + ": " + got + ", due is " + want);
        }
    }

    public static void main(String[] args) throws IOException {
        checkAsPrinted();
        Class<?> c = DancedPacts.class;
        due("the class", Modifier.toString(c.getModifiers()), "public final");
        Set<String> want = new TreeSet<>(Set.of(FACE));
        Set<String> got = new TreeSet<>();
        Set<String> names = new HashSet<>();
        for (Method m : c.getDeclaredMethods()) {
            if (!Modifier.isPrivate(m.getModifiers())) {
                got.add(told(m));
                names.add(m.getName());
            }
        }
        due("the methods", got, want);
        checkNames(c, names);
        for (Class<?> inside : c.getDeclaredClasses()) {
            due(inside.getName() + " is static", Modifier.isStatic(inside.getModifiers()), true);
            checkNames(inside, names);
        }
        for (Field f : c.getDeclaredFields()) {
            boolean none = f.getName().equals("NONE");
            due(f.getName(), Modifier.isPrivate(f.getModifiers()), !none);
        }
        due("constructors", c.getDeclaredConstructors().length, 1);
        for (Constructor<?> k : c.getDeclaredConstructors()) {
            due("the constructor", k.toString(), "public DancedPacts()");
        }
        if (wrong != 0) {
            System.exit(1);
        }
        System.out.println("the face is as due");
    }

    /** Each member stands in the source with the very words that the document prints. */
    private static void checkAsPrinted() throws IOException {
        String source = Files.readString(Path.of("src/main/java/DancedPacts.java")).replaceAll("\\s+", " ");
        boolean inside = false;
        int members = 0;
        for (String line : Files.readAllLines(Path.of("../shared/DOC.md"))) {
            String member = line.strip();
            if (inside && member.endsWith(";")) {
                String head = member.substring(0, member.length() - 1);
                boolean constant = head.contains("=");
                due("printed: " + head, source.contains(constant ? member : head + " {"), true);
                members++;
            }
            inside = (inside || member.equals("public final class DancedPacts {")) && !member.equals("}");
        }
        due("members that the document prints", members, FACE.length + 2);
    }

    private static String told(Method m) {
        StringBuilder text = new StringBuilder();
        text.append(m.getReturnType().getName()).append(' ').append(m.getName()).append('(');
        for (int i = 0; i < m.getParameterCount(); i++) {
            text.append(i == 0 ? "" : ",").append(m.getParameterTypes()[i].getName());
        }
        text.append(')');
        for (Class<?> e : m.getExceptionTypes()) {
            text.append(' ').append(e.getSimpleName());
        }
        due(m.getName() + " is public", Modifier.toString(m.getModifiers()), "public");
        return text.toString();
    }

    /** LANGUAGE.md, rule 1: no method that is not of the face bears a name of it. */
    private static void checkNames(Class<?> c, Set<String> names) {
        for (Method m : c.getDeclaredMethods()) {
            boolean ofTheFace = c == DancedPacts.class && Modifier.isPublic(m.getModifiers());
            due(c.getName() + "." + m.getName(), !ofTheFace && names.contains(m.getName()), false);
        }
    }
}
