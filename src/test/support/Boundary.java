import java.lang.reflect.InvocationTargetException;
import java.lang.reflect.Method;
import java.lang.reflect.Modifier;
import java.util.ArrayList;
import java.util.Arrays;
import java.util.Comparator;
import java.util.List;
import java.util.NoSuchElementException;

/** What the tests of boundary cases share: each static method named promise.. is one test. */
final class Boundary {
    static final String NSE = "NoSuchElementException";
    static final String IAE = "IllegalArgumentException";

    static final String TWO = "valley 0;valley 0;";
    static final String SIX = "valley 0;".repeat(6);
    /** Two VALLEYS without KNEES, one DANCE of theirs, a march, to which STEPS are told. */
    static final String PAIR = TWO + "dance 0 1 2;";
    static final int MIN = Integer.MIN_VALUE;
    static final int MAX = Integer.MAX_VALUE;

    /** All that there can be: six VALLEYS, eight DANCES, ten STEPS each; the last DANCE's are turns. */
    static final String FULL = full();
    /** DANCE 0, a waltz, binds now, and not a year later: the LEADER's KNEES keep him a row below. */
    static final String LAME = "valley 9;valley 0;valley 0;dance 0 1 3;turn 0 3;turn 1 1;step 2 1 3;turn 0 1;turn 1 3;"
            + "hop 1 1 4;glove 0 5;dance 1 2 1;step 0 2 3;";

    private static String testing = "";
    private static int wrong = 0;

    interface Call {
        Object answer();
    }

    interface Ask {
        Object of(DancedPacts x);
    }

    interface Script {
        void run(DancedPacts x);
    }

    private Boundary() {
    }

    private static String full() {
        StringBuilder text = new StringBuilder(SIX);
        int[] pairs = {1, 2, 3, 4, 5, 12, 13, 14};
        for (int dance = 0; dance < 8; dance++) {
            text.append("dance ").append(pairs[dance] / 10).append(' ').append(pairs[dance] % 10).append(" 3;");
            text.append(dance < 7 ? "bow;".repeat(10) : "turn 0 4;".repeat(10));
        }
        return text.toString();
    }

    /** Runs all tests of a class by their names, and ends with 1 if an answer was wrong. */
    static void runAll(Class<?> tests) throws ReflectiveOperationException {
        Watchdog.start();
        Method[] methods = tests.getDeclaredMethods();
        Arrays.sort(methods, Comparator.comparing(Method::getName));
        int ran = 0;
        for (Method m : methods) {
            if (m.getName().startsWith("promise") && Modifier.isStatic(m.getModifiers())) {
                testing = m.getName();
                runOne(m);
                ran++;
            }
        }
        System.out.println(ran + " boundary cases, " + wrong + " wrong answers");
        if (wrong != 0 || ran == 0) {
            System.exit(1);
        }
    }

    private static void runOne(Method m) throws IllegalAccessException {
        try {
            m.invoke(null);
        } catch (InvocationTargetException e) {
            tellWrong("the test itself ended by " + e.getCause());
        }
    }

    private static void tellWrong(String what) {
        wrong++;
        if (wrong <= 50) {
            System.out.println(testing + ": " + what);
        }
    }

    /** An exception counts by its very class: none of the machine's own is taken for another. */
    static Object answerOf(Call call) {
        try {
            return call.answer();
        } catch (RuntimeException e) {
            boolean due = e.getClass() == NoSuchElementException.class
                    || e.getClass() == IllegalArgumentException.class;
            return due ? e.getClass().getSimpleName() : e.toString();
        }
    }

    static void due(String what, Object want, Call call) {
        Object got = answerOf(call);
        if (!want.equals(got)) {
            tellWrong(what + " answered " + got + ", due is " + want);
        }
    }

    /** What is asked of LAME answers so now, and otherwise a year later. */
    static void nowAndThen(String what, Object now, Object then, Ask call) {
        nowAndThenOf(LAME, what, now, then, call);
    }

    static void nowAndThenOf(String text, String what, Object now, Object then, Ask call) {
        DancedPacts x = told(text);
        due(what + " now", now, () -> call.of(x));
        x.years(1);
        due(what + " a year later", then, () -> call.of(x));
        x.undo();
        due(what + " now again", now, () -> call.of(x));
    }

    static String blanks(int many) {
        return " ".repeat(many);
    }

    static int feedText(DancedPacts x, String text) {
        String padded = text + blanks((20 - text.length() % 20) % 20);
        int taped = x.count(8);
        for (int i = 0; i < padded.length(); i += 20) {
            int[] f = new int[5];
            for (int k = 0; k < 20; k++) {
                f[k / 4] = f[k / 4] << 8 | padded.charAt(i + k) & 255;
            }
            taped = x.feed(f[0], f[1], f[2], f[3], f[4]);
        }
        return taped;
    }

    static int tell(DancedPacts x, String text) {
        feedText(x, text);
        return x.ball(text.length());
    }

    static DancedPacts told(String text) {
        DancedPacts x = new DancedPacts();
        due("the ball of " + text, 0, () -> tell(x, text));
        return x;
    }

    /** What a text answers on a new object: 0 with place NONE, or a FAULT and its place. */
    static void fault(String text, int fault, int place) {
        DancedPacts x = new DancedPacts();
        String shown = text.length() > 120 ? text.substring(0, 120) + ".." : text;
        due("ball of '" + shown + "'", fault, () -> tell(x, text));
        due("fault of '" + shown + "'", place, x::fault);
        due("STATUS 0 of '" + shown + "'", fault == 0 ? 0 : 1, () -> x.count(9));
    }

    static void fits(String text) {
        fault(text, 0, -1);
    }

    /** A state in which nothing is as in a new object, but for the tape. */
    static void liveWithoutTape(DancedPacts x) {
        tell(x, "valley 3;valley 7;valley 0;floor 9;limit n*time+about;"
                + "dance 0 1 3;step 2 2 1;turn 0 4;hop 1 1 2;glove 0 5;bow;bow;"
                + "dance 2 1 1;hop 0 3 4;step 1 2 0;");
        x.years(12);
        x.act(0, 1, 5);
        x.see(0, 0, 1, 6, 4);
        x.image();
        x.again(1);
        x.breaks(0);
        x.stumble(0, 0, 3);
        x.act(1, 2, 99);
        x.see(1, 0, 0, 3, 4);
        x.years(0);
        x.see(1, 0, 2, 0, 0);
        tell(x, "x");
    }

    /** A state in which nothing is as in a new object. */
    static void live(DancedPacts x) {
        liveWithoutTape(x);
        feedText(x, "valley 1;floor 7;   ");
    }

    static DancedPacts living() {
        DancedPacts x = new DancedPacts();
        live(x);
        return x;
    }

    /** A call answers so in the state of live(), and changes nothing but the STATUS told (NONE: none). */
    static void leavesAll(String what, Object want, int status, Ask call) {
        leavesAllOf(what, want, status, Boundary::live, call);
    }

    static void leavesAllOf(String what, Object want, int status, Script before, Ask call) {
        DancedPacts x = new DancedPacts();
        DancedPacts y = new DancedPacts();
        before.run(x);
        before.run(y);
        due(what, want, () -> call.of(x));
        for (int k = 0; k < 3; k++) {
            int which = 9 + k;
            int more = k == status ? 1 : 0;
            due("STATUS " + k + " behind " + what, y.count(which) + more, () -> x.count(which));
        }
        List<String> ours = new ArrayList<>();
        List<String> theirs = new ArrayList<>();
        ask(x, ours);
        ask(y, theirs);
        for (int i = 0; i < Math.max(ours.size(), theirs.size()); i++) {
            String got = i < ours.size() ? ours.get(i) : "nothing";
            String due = i < theirs.size() ? theirs.get(i) : "nothing";
            if (!got.equals(due)) {
                tellWrong("behind " + what + ": " + got + ", without it " + due);
                return;
            }
        }
    }

    private static void note(List<String> row, String what, Call call) {
        row.add(what + " is " + answerOf(call));
    }

    /** Asks all but STATUS that can be asked within 512 calls, then undoes, restores, reads the tape. */
    private static void ask(DancedPacts x, List<String> row) {
        note(row, "fault", x::fault);
        for (int what = 0; what <= 8; what++) {
            int w = what;
            note(row, "count " + w, () -> x.count(w));
        }
        int valleys = x.count(0);
        int dances = x.count(1);
        for (int dance = 0; dance < dances; dance++) {
            askDance(x, dance, row);
        }
        for (int valley = 0; valley < valleys; valley++) {
            askValley(x, valley, row);
        }
        for (int i = 0; i < 4; i++) {
            note(row, "undo " + i, x::undo);
            askActs(x, valleys, dances, row);
        }
        note(row, "restore", x::restore);
        askActs(x, valleys, dances, row);
        note(row, "seen", () -> x.count(7));
        note(row, "undo behind restore", x::undo);
        note(row, "undo twice behind it", x::undo);
        note(row, "year behind it", () -> x.count(3));
        note(row, "ball of the tape", () -> x.ball(x.count(8)));
        note(row, "its valleys", () -> x.count(0));
        note(row, "its floor", () -> x.count(2));
    }

    private static void askDance(DancedPacts x, int dance, List<String> row) {
        for (int what = 0; what < 8; what++) {
            int w = what;
            note(row, "dance " + dance + " " + w, () -> x.dance(dance, w));
        }
        int steps = x.dance(dance, 3);
        for (int i = 0; i < steps; i++) {
            int k = i;
            for (int what = 0; what < 4; what++) {
                int w = what;
                note(row, "step " + dance + " " + k + " " + w, () -> x.step(dance, k, w));
            }
            for (int who = 0; who < 2; who++) {
                int w = who;
                note(row, "x behind " + dance + " " + k + " " + w, () -> x.where(dance, k, w, 0));
                note(row, "side behind " + dance + " " + k + " " + w, () -> x.where(dance, k, w, 2));
            }
        }
        for (int what = 0; what < 3; what++) {
            int w = what;
            note(row, "limp " + dance + " " + w, () -> x.limp(dance, w));
        }
    }

    private static void askValley(DancedPacts x, int valley, List<String> row) {
        note(row, "knees " + valley, () -> x.knees(valley));
        for (int about = 0; about < 8; about++) {
            int a = about;
            note(row, "bound " + valley + " " + a, () -> x.bound(valley, a));
            note(row, "done " + valley + " " + a, () -> x.done(valley, a, 0));
        }
        for (int what = 0; what < 3; what++) {
            int w = what;
            note(row, "clauses " + valley + " " + w, () -> x.clauses(valley, w));
        }
    }

    private static void askActs(DancedPacts x, int valleys, int dances, List<String> row) {
        note(row, "year", () -> x.count(3));
        note(row, "acts", () -> x.count(6));
        for (int dance = 0; dance < dances; dance++) {
            int d = dance;
            note(row, "since " + d, () -> x.dance(d, 4));
            note(row, "broken " + d, () -> x.dance(d, 5));
            note(row, "n " + d, () -> x.step(d, 0, 2));
        }
        for (int valley = 0; valley < valleys; valley++) {
            int v = valley;
            note(row, "done about 1 of " + v, () -> x.done(v, 1, 0));
            note(row, "done about 2 of " + v, () -> x.done(v, 2, 0));
        }
    }
}
