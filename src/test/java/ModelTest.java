import java.util.ArrayDeque;
import java.util.ArrayList;
import java.util.Arrays;
import java.util.HashMap;
import java.util.HashSet;
import java.util.List;
import java.util.Map;
import java.util.NoSuchElementException;
import java.util.Random;
import java.util.Set;
import java.util.function.ToIntFunction;

/** Random runs of calls on DancedPacts and on a plain model of the document, side by side. */
public final class ModelTest {
    private static final int RUNS = 500;
    private static final int CALLS = 300;
    private static int wrong = 0;

    private interface Call {
        Object answer();
    }

    private static String answerOf(Call call) {
        try {
            return String.valueOf(call.answer());
        } catch (NoSuchElementException e) {
            return e.getClass() == NoSuchElementException.class ? "NSE" : e.toString();
        } catch (IllegalArgumentException e) {
            return e.getClass() == IllegalArgumentException.class ? "IAE" : e.toString();
        } catch (RuntimeException e) {
            return e.toString();
        }
    }

    public static void main(String[] args) {
        Watchdog.start();
        long seed = args.length > 0 ? Long.parseLong(args[0]) : 20261118L;
        Map<String, Integer> seen = new HashMap<>();
        for (int run = 0; run < RUNS && wrong < 20; run++) {
            new Run(new Random(seed + run), run, seen).go();
        }
        for (int i = 0; i < 4000 && wrong < 20; i++) {
            oneText(new Random(seed * 31 + i), i, seen);
        }
        checkVariety(seen);
        System.out.println(wrong == 0 ? "the model agrees" : wrong + " answers differ");
        if (wrong != 0) {
            System.exit(1);
        }
    }

    /** A model that never comes to something tells nothing of it. */
    private static void checkVariety(Map<String, Integer> seen) {
        String[] due = {"ball 0", "ball 1", "ball 2", "ball 3", "ball 4", "ball 5", "mend 0", "mend 1",
            "mend 2", "mend -1", "breaks true", "breaks false", "restore true", "restore false",
            "count NSE", "later IAE", "century IAE", "game IAE", "inTime IAE", "ball IAE", "see NSE",
            "see -1", "act -1", "years -1", "stumble -1", "where NSE", "costly -1", "against 1",
            "against 3", "evenings 4", "help 6", "undo -1"};
        for (String d : due) {
            if (seen.getOrDefault(d, 0) < 3) {
                wrong++;
                System.out.println("hardly ever answered: " + d + " " + seen.getOrDefault(d, 0));
            }
        }
    }

    private static void oneText(Random random, int i, Map<String, Integer> seen) {
        String text = new Texts(random).any();
        DancedPacts x = new DancedPacts();
        Model m = new Model();
        feed(x, m, text);
        String got = answerOf(() -> x.ball(text.length()));
        String want = answerOf(() -> m.ball(text.length()));
        seen.merge("ball " + got, 1, Integer::sum);
        if (!got.equals(want) || x.fault() != m.fault) {
            wrong++;
            System.out.println("text " + i + ": " + got + " at " + x.fault() + ", due is " + want
                    + " at " + m.fault + ": " + text);
        }
    }

    private static void feed(DancedPacts x, Model m, String text) {
        StringBuilder padded = new StringBuilder(text);
        while (padded.length() % 20 != 0) {
            padded.append('!');
        }
        for (int i = 0; i < padded.length(); i += 20) {
            int[] f = new int[5];
            for (int k = 0; k < 20; k++) {
                f[k / 4] = f[k / 4] << 8 | padded.charAt(i + k) & 255;
            }
            int got = x.feed(f[0], f[1], f[2], f[3], f[4]);
            int want = m.feed(padded.substring(i, i + 20));
            if (got != want) {
                wrong++;
                System.out.println("feed: " + got + ", due is " + want);
            }
        }
    }

    /** One object and one model, through many calls. */
    private static final class Run {
        final Random random;
        final int run;
        final Map<String, Integer> seen;
        final DancedPacts x = new DancedPacts();
        final Model m = new Model();
        final List<String> told = new ArrayList<>();

        Run(Random random, int run, Map<String, Integer> seen) {
            this.random = random;
            this.run = run;
            this.seen = seen;
        }

        int any(int below) {
            return random.nextInt(below);
        }

        /** Mostly one that there is, now and then one beyond. */
        int near(int below) {
            if (any(80) == 0) {
                return any(2) == 0 ? Integer.MIN_VALUE + any(3) : Integer.MAX_VALUE - any(3);
            }
            return any(12) == 0 ? any(below + 4) - 2 : any(Math.max(1, below));
        }

        void same(String name, Call ours, Call models, int... args) {
            String got = answerOf(ours);
            String want = answerOf(models);
            String call = name + Arrays.toString(args);
            told.add(call + " -> " + got);
            seen.merge(name + " " + got, 1, Integer::sum);
            if (!got.equals(want)) {
                wrong++;
                System.out.println("run " + run + ": " + call + " answered " + got + ", due is " + want
                        + "\n  text: " + m.text + "\n  calls: " + told);
            }
        }

        void go() {
            tell(true);
            for (int i = 0; i < CALLS && wrong < 20; i++) {
                int pick = any(100);
                if (pick < 40) {
                    change();
                } else if (pick < 99) {
                    ask();
                } else {
                    tell(any(2) == 0);
                }
            }
        }

        void tell(boolean good) {
            Texts texts = new Texts(random);
            String text = good ? texts.good() : texts.any();
            while (m.tape.length() + text.length() + 20 > 700) {
                text = "valley 1;";
                same("ball", () -> x.ball(0), () -> m.ball(0), 0);
            }
            feed(x, m, text);
            int n = any(10) == 0 ? any(900) - 20 : text.length();
            same("ball", () -> x.ball(n), () -> m.ball(n), n);
            same("fault", x::fault, () -> m.fault);
        }

        void change() {
            int d = near(m.dances.size());
            int i = near(8);
            int v = near(m.valleys.size());
            int a = near(8);
            switch (any(13)) {
                case 0: case 1: {
                    int years = any(4) == 0 ? any(60) - 4 : 1 + any(5);
                    same("years", () -> x.years(years), () -> m.years(years), years);
                    break;
                }
                case 2:
                    same("again", () -> x.again(d), () -> m.again(d), d);
                    break;
                case 3:
                    if (any(2) == 0) {
                        same("breaks", () -> x.breaks(d), () -> m.breaks(d), d);
                    }
                    break;
                case 4: case 5: {
                    int n = near(10);
                    same("stumble", () -> x.stumble(d, i, n), () -> m.stumble(d, i, n), d, i, n);
                    break;
                }
                case 6: case 7: {
                    int much = any(6) == 0 ? any(110) - 3 : 1 + any(9);
                    same("act", () -> x.act(v, a, much), () -> m.act(v, a, much), v, a, much);
                    break;
                }
                case 8:
                    same("undo", x::undo, m::undo);
                    break;
                case 9: case 10:
                    see(d, i);
                    break;
                case 11:
                    if (any(3) == 0) {
                        x.forget();
                        m.now.seen.clear();
                        told.add("forget");
                    }
                    break;
                default:
                    if (any(3) == 0) {
                        x.image();
                        m.image();
                        told.add("image");
                    } else if (any(3) == 0) {
                        same("restore", x::restore, m::restore);
                    }
                    break;
            }
        }

        /** Mostly what is so, or would be so by another N. */
        void see(int d, int i) {
            int who = near(2);
            int px = near(m.floor);
            int py = near(m.floor);
            boolean real = d >= 0 && d < m.dances.size() && who >= 0 && who < 2 && any(4) != 0;
            if (real && i >= 0 && i < m.dances.get(d).steps.size()) {
                int[] n = m.ns(d);
                n[any(n.length)] = any(10);
                List<int[]> walk = m.walk(d, n, m.now.year);
                if (walk.size() > i + 1) {
                    px = walk.get(i + 1)[3 * who];
                    py = walk.get(i + 1)[3 * who + 1];
                }
            }
            int fx = px;
            int fy = py;
            same("see", () -> x.see(d, i, who, fx, fy), () -> m.see(d, i, who, fx, fy), d, i, who, fx, fy);
        }

        void ask() {
            int d = near(m.dances.size());
            int i = near(8);
            int v = near(m.valleys.size());
            int u = near(m.valleys.size());
            int a = near(8);
            int two = near(2);
            int three = near(3);
            int who = near(2);
            switch (any(20)) {
                case 0: {
                    int what = near(12);
                    same("count", () -> x.count(what), () -> m.count(what), what);
                    break;
                }
                case 1:
                    same("knees", () -> x.knees(v), () -> m.knees(v), v);
                    break;
                case 2: {
                    int what = near(8);
                    same("dance", () -> x.dance(d, what), () -> m.dance(d, what), d, what);
                    break;
                }
                case 3: {
                    int what = near(4);
                    same("step", () -> x.step(d, i, what), () -> m.step(d, i, what), d, i, what);
                    break;
                }
                case 4: {
                    int at = i - 1;
                    same("where", () -> x.where(d, at, who, three), () -> m.where(d, at, who, three),
                            d, at, who, three);
                    break;
                }
                case 5:
                    same("bound", () -> x.bound(v, a), () -> m.bound(v, a), v, a);
                    break;
                case 6:
                    same("clauses", () -> x.clauses(v, three), () -> m.clauses(v, three), v, three);
                    break;
                case 7:
                    same("done", () -> x.done(v, a, two), () -> m.done(v, a, two), v, a, two);
                    break;
                case 8: case 9:
                    same("mend", () -> x.mend(d, two), () -> m.mend(d, two), d, two);
                    break;
                case 10:
                    same("costly", () -> x.costly(d), () -> m.costly(d), d);
                    break;
                case 11: {
                    int years = near(100);
                    same("later", () -> x.later(years), () -> m.later(years), years);
                    break;
                }
                case 12: {
                    int time = 1 + near(4);
                    same("inTime", () -> x.inTime(d, time), () -> m.inTime(d, time), d, time);
                    break;
                }
                case 13:
                    same("apart", () -> x.apart(d), () -> m.apart(d), d);
                    break;
                case 14:
                    same("against", () -> x.against(two), () -> m.against(two), two);
                    break;
                case 15:
                    same("help", () -> x.help(v), () -> m.help(v), v);
                    break;
                case 16:
                    same("evenings", () -> x.evenings(three), () -> m.evenings(three), three);
                    break;
                case 17:
                    same("limp", () -> x.limp(d, three), () -> m.limp(d, three), d, three);
                    break;
                case 18:
                    same("game", () -> x.game(v, u, a, two), () -> m.game(v, u, a, two), v, u, a, two);
                    break;
                default: {
                    int seed = random.nextInt();
                    int n = any(3) == 0 ? near(41) : any(8);
                    same("century", () -> x.century(seed, n, three), () -> m.century(seed, n, three),
                            seed, n, three);
                    break;
                }
            }
        }
    }

    /** Texts, good ones and such as are not. */
    private static final class Texts {
        final Random random;

        Texts(Random random) {
            this.random = random;
        }

        int any(int below) {
            return random.nextInt(below);
        }

        String expr(int depth) {
            switch (depth <= 0 ? any(2) : any(12)) {
                case 0:
                    return "" + any(any(3) == 0 ? 9999 : 30);
                case 1:
                    return new String[] {"n", "about", "time", "hop", "place", "lead"}[any(6)];
                case 2:
                    return "(" + expr(depth - 1) + (any(2) == 0 ? " or " : " and ") + expr(depth - 1) + ")";
                case 3:
                    return "(" + "not ".repeat(1 + any(3)) + expr(depth - 1) + ")";
                case 4:
                    return "(" + sum(depth - 1) + (any(2) == 0 ? "<" : " = ") + sum(depth - 1) + ")";
                default:
                    return sum(depth - 1);
            }
        }

        String sum(int depth) {
            StringBuilder text = new StringBuilder(expr(depth));
            for (int i = any(3); i > 0; i--) {
                text.append("+-*/+*".charAt(any(6))).append(expr(depth - 1));
            }
            return text.toString();
        }

        String good() {
            int valleys = 2 + any(5);
            StringBuilder text = new StringBuilder();
            if (any(2) == 0) {
                text.append("floor ").append(4 + any(17)).append(";");
            }
            for (int i = 0; i < valleys; i++) {
                text.append("valley ").append(any(10)).append(';');
            }
            if (any(3) != 0) {
                text.append("limit ").append(expr(3)).append(';');
            }
            Set<String> pairs = new HashSet<>();
            for (int i = 1 + any(9); i > 0 && pairs.size() < 8 && text.length() < 560; i--) {
                int one = any(valleys);
                int other = any(valleys);
                String pair = Math.min(one, other) + " " + Math.max(one, other);
                if (one != other && pairs.add(pair)) {
                    text.append("dance ").append(one).append(' ').append(other).append(' ')
                            .append(any(2) == 0 ? 3 : 1 + any(4)).append(';');
                    steps(text);
                }
            }
            return text.length() <= 680 ? text.toString() : text.substring(0, text.lastIndexOf(";", 660) + 1);
        }

        void steps(StringBuilder text) {
            boolean plain = any(3) == 0;
            int most = plain ? 1 + any(2) : any(8) == 0 ? 10 : any(7);
            for (int i = 0; i < most && text.length() < 640; i++) {
                int who = any(3);
                int about = any(3) == 0 ? any(8) : any(2);
                if (plain) {
                    text.append("step ").append(who).append(' ').append(1 + any(2)).append(" 0;");
                    continue;
                }
                switch (any(9)) {
                    case 0: case 1: case 2:
                        text.append("step ").append(who).append(' ').append(any(5)).append(' ').append(about);
                        break;
                    case 3: case 4:
                        text.append("hop ").append(who).append(' ').append(any(4)).append(' ').append(about);
                        break;
                    case 5: case 6:
                        text.append("turn ").append(any(2) == 0 ? 2 : who).append(' ')
                                .append(any(3) == 0 ? any(10) : 4 * any(3));
                        break;
                    case 7:
                        text.append("glove ").append(who).append(' ').append(about);
                        break;
                    default:
                        if (i + 2 <= most) {
                            text.append("bow;");
                            i++;
                        }
                        text.append("bow");
                        break;
                }
                text.append(';');
            }
        }

        /** A good one with a few things changed, or only some tokens. */
        String any() {
            String[] tokens = {"valley", "dance", "step", "hop", "turn", "glove", "bow", "floor", "limit",
                ";", "(", ")", "+", "-", "*", "/", "<", "=", "not", "and", "or", "n", "lead", "x", "0", "1",
                "2", "7", "9", "10", "9999", "12345", "!", "((((((", "not not not not not not not", " ", "\n",
                "valley 0;", "limit 1;", "floor 9;", "dance 0 1 1;", "bow;bow;bow;bow;bow;", "\t", "A",
                "dance 1 0 2;", "dance 2 2 1;", "valley 1;valley 2;valley 3;valley 4;"};
            StringBuilder text = new StringBuilder(any(6) == 0 ? "" : good());
            for (int i = 1 + any(4); i > 0; i--) {
                int at = any(text.length() + 1);
                if (any(3) == 0 && at < text.length()) {
                    text.deleteCharAt(at);
                } else {
                    text.insert(at, " ".repeat(any(2)) + tokens[any(tokens.length)] + " ".repeat(any(2)));
                }
            }
            if (any(8) == 0) {
                text.setLength(any(text.length() + 1));
            }
            return text.length() <= 700 ? text.toString() : text.substring(0, 700);
        }
    }

    private record Step(int kind, int who, int about) { }

    private static final class Dance {
        int leader;
        int follower;
        int time;
        final List<Step> steps = new ArrayList<>();
        final List<Integer> ns = new ArrayList<>();
    }

    private record Act(String kind, int a, int b, int c, int d) { }

    private static final class State {
        int year = 0;
        List<Integer> danced = new ArrayList<>();
        List<Boolean> broken = new ArrayList<>();
        List<List<Integer>> ns = new ArrayList<>();
        int[][] done = new int[6][8];
        ArrayDeque<Act> acts = new ArrayDeque<>();
        List<int[]> seen = new ArrayList<>();
        int[] status = new int[3];

        State copy() {
            State s = new State();
            s.year = year;
            s.danced = new ArrayList<>(danced);
            s.broken = new ArrayList<>(broken);
            for (List<Integer> row : ns) {
                s.ns.add(new ArrayList<>(row));
            }
            for (int v = 0; v < 6; v++) {
                s.done[v] = done[v].clone();
            }
            s.acts = new ArrayDeque<>(acts);
            s.seen = new ArrayList<>(seen);
            s.status = status.clone();
            return s;
        }
    }

    private static final class Fault extends RuntimeException {
        private static final long serialVersionUID = 1L;
        final int fault;
        final int place;

        Fault(int fault, int place) {
            this.fault = fault;
            this.place = place;
        }
    }

    /** The six VALUES of a clause, by their names. */
    private static final class Values extends HashMap<String, Integer> {
        private static final long serialVersionUID = 1L;
    }

    /** A TEXT is cut into TOKENS first, then read by the grammar, each EXPR into a function. */
    private static final class Parser {
        final List<String> tokens = new ArrayList<>();
        final List<Integer> places = new ArrayList<>();
        final List<Integer> valleys = new ArrayList<>();
        final List<Dance> dances = new ArrayList<>();
        int floor = 0;
        ToIntFunction<Values> limit = null;
        int at = 0;

        Parser(String text) {
            int i = 0;
            while (i < text.length()) {
                char c = text.charAt(i);
                int j = i + 1;
                if (c == ' ' || c == '\n') {
                    i = j;
                    continue;
                }
                boolean word = c >= 'a' && c <= 'z';
                boolean digits = c >= '0' && c <= '9';
                while (j < text.length() && (word && text.charAt(j) >= 'a' && text.charAt(j) <= 'z'
                        || digits && text.charAt(j) >= '0' && text.charAt(j) <= '9')) {
                    j++;
                }
                boolean sign = ";()+-*/<=".indexOf(c) >= 0;
                tokens.add(word || digits || sign ? text.substring(i, j) : "?none");
                places.add(i);
                i = j;
            }
            tokens.add("?end");
            places.add(text.length());
        }

        String peek() {
            return tokens.get(at);
        }

        boolean isWord() {
            return peek().matches("[a-z]+");
        }

        boolean isNumber() {
            return peek().matches("[0-9]+");
        }

        Fault fault(int fault) {
            return new Fault(fault, places.get(at));
        }

        boolean take(String token) {
            if (peek().equals(token)) {
                at++;
                return true;
            }
            return false;
        }

        void must(String token) {
            if (!take(token)) {
                throw fault(1);
            }
        }

        int number(int low, int high) {
            if (!isNumber()) {
                throw fault(1);
            }
            if (peek().length() > 4) {
                throw fault(2);
            }
            int number = Integer.parseInt(peek());
            if (number < low || number > high) {
                throw fault(2);
            }
            at++;
            return number;
        }

        int valley() {
            int number = number(0, 9999);
            if (number >= valleys.size()) {
                at--;
                throw fault(3);
            }
            return number;
        }

        void read() {
            while (!peek().equals("?end")) {
                line();
                must(";");
            }
        }

        void line() {
            List<String> kinds = List.of("step", "turn", "hop", "glove", "bow");
            String word = peek();
            if (word.equals("valley")) {
                if (valleys.size() == 6) {
                    throw fault(2);
                }
                at++;
                valleys.add(number(0, 9));
            } else if (word.equals("dance")) {
                dance();
            } else if (kinds.contains(word)) {
                step(kinds.indexOf(word));
            } else if (word.equals("floor")) {
                if (floor != 0) {
                    throw fault(5);
                }
                at++;
                floor = number(4, 20);
            } else if (word.equals("limit")) {
                if (limit != null) {
                    throw fault(5);
                }
                at++;
                limit = expr(0);
            } else {
                throw fault(1);
            }
        }

        void dance() {
            if (dances.size() == 8) {
                throw fault(2);
            }
            at++;
            Dance d = new Dance();
            d.leader = valley();
            d.follower = valley();
            for (Dance other : dances) {
                if (Set.of(other.leader, other.follower).equals(new HashSet<>(List.of(d.leader, d.follower)))) {
                    at--;
                    throw fault(4);
                }
            }
            if (d.leader == d.follower) {
                at--;
                throw fault(4);
            }
            d.time = number(1, 4);
            dances.add(d);
        }

        void step(int kind) {
            if (dances.isEmpty()) {
                throw fault(1);
            }
            Dance d = dances.get(dances.size() - 1);
            if (d.steps.size() == 10) {
                throw fault(2);
            }
            at++;
            int who = 2;
            int n = 0;
            int about = 0;
            switch (kind) {
                case 0: case 2:
                    who = number(0, 2);
                    n = number(0, 9);
                    about = number(0, 7);
                    break;
                case 1:
                    who = number(0, 2);
                    n = number(0, 9);
                    break;
                case 3:
                    who = number(0, 2);
                    about = number(0, 7);
                    break;
                default:
                    break;
            }
            d.steps.add(new Step(kind, who, about));
            d.ns.add(n);
        }

        ToIntFunction<Values> expr(int within) {
            if (within == 6 && (isNumber() || isWord() || peek().equals("("))) {
                throw fault(2);
            }
            ToIntFunction<Values> left = and(within);
            while (take("or")) {
                ToIntFunction<Values> a = left;
                ToIntFunction<Values> b = and(within);
                left = v -> a.applyAsInt(v) != 0 | b.applyAsInt(v) != 0 ? 1 : 0;
            }
            return left;
        }

        ToIntFunction<Values> and(int within) {
            ToIntFunction<Values> left = not(within, 0);
            while (take("and")) {
                ToIntFunction<Values> a = left;
                ToIntFunction<Values> b = not(within, 0);
                left = v -> a.applyAsInt(v) != 0 & b.applyAsInt(v) != 0 ? 1 : 0;
            }
            return left;
        }

        ToIntFunction<Values> not(int within, int nots) {
            if (peek().equals("not") && nots == 6) {
                throw fault(2);
            }
            if (take("not")) {
                ToIntFunction<Values> a = not(within, nots + 1);
                return v -> a.applyAsInt(v) == 0 ? 1 : 0;
            }
            ToIntFunction<Values> a = sum(within);
            if (take("<")) {
                ToIntFunction<Values> b = sum(within);
                return v -> a.applyAsInt(v) < b.applyAsInt(v) ? 1 : 0;
            }
            if (take("=")) {
                ToIntFunction<Values> b = sum(within);
                return v -> a.applyAsInt(v) == b.applyAsInt(v) ? 1 : 0;
            }
            return a;
        }

        ToIntFunction<Values> sum(int within) {
            ToIntFunction<Values> left = product(within);
            while (peek().equals("+") || peek().equals("-")) {
                boolean plus = tokens.get(at++).equals("+");
                ToIntFunction<Values> a = left;
                ToIntFunction<Values> b = product(within);
                left = v -> plus ? a.applyAsInt(v) + b.applyAsInt(v) : a.applyAsInt(v) - b.applyAsInt(v);
            }
            return left;
        }

        ToIntFunction<Values> product(int within) {
            ToIntFunction<Values> left = part(within);
            while (peek().equals("*") || peek().equals("/")) {
                boolean times = tokens.get(at++).equals("*");
                ToIntFunction<Values> a = left;
                ToIntFunction<Values> b = part(within);
                left = v -> {
                    int p = a.applyAsInt(v);
                    int q = b.applyAsInt(v);
                    return times ? p * q : q == 0 ? 0 : p / q;
                };
            }
            return left;
        }

        ToIntFunction<Values> part(int within) {
            if (take("(")) {
                ToIntFunction<Values> inner = expr(within + 1);
                must(")");
                return inner;
            }
            if (isWord()) {
                String name = peek();
                if (!List.of("n", "about", "time", "hop", "place", "lead").contains(name)) {
                    throw fault(3);
                }
                at++;
                return v -> v.get(name);
            }
            int number = number(0, 9999);
            return v -> number;
        }
    }

    /** The document, told as plainly as can be. */
    private static final class Model {
        String tape = "";
        String text = "";
        int fault = -1;
        List<Integer> valleys = new ArrayList<>();
        List<Dance> dances = new ArrayList<>();
        int floor = 12;
        ToIntFunction<Values> limit = null;
        State now = new State();
        State kept = null;

        static void need(boolean there) {
            if (!there) {
                throw new NoSuchElementException();
            }
        }

        static void allow(boolean right) {
            if (!right) {
                throw new IllegalArgumentException();
            }
        }

        static boolean in(int value, int low, int high) {
            return value >= low && value <= high;
        }

        void needValley(int v) {
            need(in(v, 0, valleys.size() - 1));
        }

        void needDance(int d) {
            need(in(d, 0, dances.size() - 1));
        }

        void needStep(int d, int i) {
            needDance(d);
            need(in(i, 0, dances.get(d).steps.size() - 1));
        }

        int refuse(int status) {
            now.status[status]++;
            return -1;
        }

        int feed(String twenty) {
            if (tape.length() + 20 > 700) {
                return -1;
            }
            tape += twenty;
            return tape.length();
        }

        int ball(int n) {
            allow(in(n, 0, tape.length()));
            String read = tape.substring(0, n);
            tape = "";
            Parser p = new Parser(read);
            try {
                p.read();
            } catch (Fault f) {
                fault = f.place;
                now.status[0]++;
                return f.fault;
            }
            text = read;
            fault = -1;
            valleys = p.valleys;
            dances = p.dances;
            floor = p.floor == 0 ? 12 : p.floor;
            limit = p.limit;
            int[] status = now.status;
            now = new State();
            now.status = status;
            for (Dance d : dances) {
                now.danced.add(0);
                now.broken.add(false);
                now.ns.add(new ArrayList<>(d.ns));
            }
            kept = null;
            return 0;
        }

        int[] ns(int d) {
            return now.ns.get(d).stream().mapToInt(k -> k).toArray();
        }

        /** Where both are: x, y, side of the one, of the other; first ahead of all, then behind each STEP. */
        List<int[]> walk(int d, int[] n, int year) {
            Dance dance = dances.get(d);
            List<int[]> rows = new ArrayList<>();
            rows.add(new int[] {0, floor / 2, 0, floor - 1, floor / 2, 2});
            for (int i = 0; i < dance.steps.size(); i++) {
                int[] row = rows.get(i).clone();
                if (!moved(dance, i, n[i], year - now.danced.get(d), row)) {
                    break;
                }
                rows.add(row);
            }
            return rows;
        }

        boolean moved(Dance dance, int i, int n, int since, int[] row) {
            Step step = dance.steps.get(i);
            if (step.kind == 4) {
                int x = row[0];
                int y = row[1];
                row[0] = row[3];
                row[1] = row[4];
                row[3] = x;
                row[4] = y;
            }
            for (int who = 0; who < 2; who++) {
                if (step.who != who && step.who != 2) {
                    continue;
                }
                if (step.kind == 1) {
                    row[3 * who + 2] = (row[3 * who + 2] + n) % 4;
                }
                if (step.kind == 0 || step.kind == 2) {
                    int knees = valleys.get(who == 0 ? dance.leader : dance.follower);
                    for (int k = n - (knees + since) / 10; k > 0; k--) {
                        switch (row[3 * who + 2]) {
                            case 0:
                                row[3 * who]++;
                                break;
                            case 1:
                                row[3 * who + 1]++;
                                break;
                            case 2:
                                row[3 * who]--;
                                break;
                            default:
                                row[3 * who + 1]--;
                                break;
                        }
                        boolean onFloor = in(row[3 * who], 0, floor - 1) && in(row[3 * who + 1], 0, floor - 1);
                        if (!onFloor || row[0] == row[3] && row[1] == row[4]) {
                            return false;
                        }
                    }
                }
            }
            return true;
        }

        boolean facing(int d, int[] n, int year) {
            List<int[]> rows = walk(d, n, year);
            if (rows.size() <= dances.get(d).steps.size()) {
                return false;
            }
            int[] r = rows.get(rows.size() - 1);
            if (r[1] == r[4]) {
                return r[0] < r[3] ? r[2] == 0 && r[5] == 2 : r[2] == 2 && r[5] == 0;
            }
            if (r[0] == r[3]) {
                return r[1] < r[4] ? r[2] == 1 && r[5] == 3 : r[2] == 3 && r[5] == 1;
            }
            return false;
        }

        boolean binding(int d) {
            return !now.broken.get(d) && facing(d, ns(d), now.year);
        }

        int bindingBits() {
            int bits = 0;
            for (int d = 0; d < dances.size(); d++) {
                bits += binding(d) ? 1 << d : 0;
            }
            return bits;
        }

        int limitOf(int d, int i, int v, int time) {
            Dance dance = dances.get(d);
            int n = now.ns.get(d).get(i);
            if (limit == null) {
                return n * time;
            }
            Values values = new Values();
            values.put("n", n);
            values.put("about", dance.steps.get(i).about);
            values.put("time", time);
            values.put("hop", dance.steps.get(i).kind == 2 ? 1 : 0);
            values.put("place", i);
            values.put("lead", dance.leader == v ? 1 : 0);
            return Math.max(0, Math.min(99, limit.applyAsInt(values)));
        }

        boolean isClause(int d, int i) {
            int kind = dances.get(d).steps.get(i).kind;
            return binding(d) && (kind == 0 || kind == 2) && now.ns.get(d).get(i) != 0;
        }

        boolean of(int d, int i, int v) {
            Dance dance = dances.get(d);
            int who = dance.steps.get(i).who;
            return dance.leader == v && who != 1 || dance.follower == v && who != 0;
        }

        boolean boundBy(int d, int i, int v) {
            if (!of(d, i, v) || !isClause(d, i)) {
                return false;
            }
            for (int k = 0; k < dances.get(d).steps.size(); k++) {
                Step step = dances.get(d).steps.get(k);
                if (step.kind == 3 && of(d, k, v) && step.about == dances.get(d).steps.get(i).about) {
                    return false;
                }
            }
            return true;
        }

        /** -1: by that DANCE to nothing. */
        int leastOf(int d, int v, int about) {
            int least = -1;
            for (int i = 0; i < dances.get(d).steps.size(); i++) {
                if (dances.get(d).steps.get(i).about == about && boundBy(d, i, v)) {
                    int to = limitOf(d, i, v, dances.get(d).time);
                    least = least < 0 ? to : Math.min(least, to);
                }
            }
            return least;
        }

        int least(int v, int about) {
            int least = -1;
            for (int d = 0; d < dances.size(); d++) {
                int to = leastOf(d, v, about);
                least = least < 0 ? to : to < 0 ? least : Math.min(least, to);
            }
            return least;
        }

        boolean stamped(int v, int about, int besides) {
            int to = least(v, about);
            return to >= 0 && now.done[v][about] + besides > to;
        }

        int count(int what) {
            need(in(what, 0, 11));
            int stamped = 0;
            for (int v = 0; v < valleys.size(); v++) {
                for (int about = 0; about < 8; about++) {
                    if (stamped(v, about, 0)) {
                        stamped++;
                        break;
                    }
                }
            }
            return new int[] {valleys.size(), dances.size(), floor, now.year, bindingBits(), stamped,
                now.acts.size(), now.seen.size(), tape.length(), now.status[0], now.status[1],
                now.status[2]}[what];
        }

        int knees(int v) {
            needValley(v);
            return valleys.get(v);
        }

        int dance(int d, int what) {
            needDance(d);
            need(in(what, 0, 7));
            Dance dance = dances.get(d);
            int reached = walk(d, ns(d), now.year).size() - 1;
            return new int[] {dance.leader, dance.follower, dance.time, dance.steps.size(),
                now.year - now.danced.get(d), now.broken.get(d) ? 1 : 0, binding(d) ? 1 : 0,
                reached == dance.steps.size() ? -1 : reached}[what];
        }

        int step(int d, int i, int what) {
            needStep(d, i);
            need(in(what, 0, 3));
            Step step = dances.get(d).steps.get(i);
            return new int[] {step.kind, step.who, now.ns.get(d).get(i), step.about}[what];
        }

        int where(int d, int i, int who, int what) {
            needDance(d);
            need(in(who, 0, 1) && in(what, 0, 2));
            List<int[]> rows = walk(d, ns(d), now.year);
            need(in(i, -1, rows.size() - 2));
            return rows.get(i + 1)[3 * who + what];
        }

        int bound(int v, int about) {
            needValley(v);
            need(in(about, 0, 7));
            return least(v, about);
        }

        int clauses(int v, int what) {
            needValley(v);
            need(in(what, 0, 2));
            int[] many = new int[3];
            for (int d = 0; d < dances.size(); d++) {
                Dance dance = dances.get(d);
                boolean ofIt = dance.leader == v || dance.follower == v;
                for (int i = 0; i < dance.steps.size() && ofIt; i++) {
                    int kind = dance.steps.get(i).kind;
                    many[0] += boundBy(d, i, v) ? 1 : 0;
                    many[1] += kind == 2 && isClause(d, i) && !of(d, i, v) ? 1 : 0;
                    many[2] += kind == 3 && binding(d) && of(d, i, v) ? 1 : 0;
                }
            }
            return many[what];
        }

        int done(int v, int about, int what) {
            needValley(v);
            need(in(about, 0, 7) && in(what, 0, 1));
            return what == 0 ? now.done[v][about] : stamped(v, about, 0) ? 1 : 0;
        }

        void note(Act act) {
            now.acts.addLast(act);
            if (now.acts.size() > 40) {
                now.acts.removeFirst();
            }
        }

        int years(int many) {
            if (!in(many, 1, 50) || now.year + many > 999) {
                return refuse(1);
            }
            now.year += many;
            note(new Act("years", many, 0, 0, 0));
            return now.year;
        }

        int again(int d) {
            needDance(d);
            int since = now.year - now.danced.get(d);
            note(new Act("again", d, now.danced.get(d), now.broken.get(d) ? 1 : 0, 0));
            now.danced.set(d, now.year);
            now.broken.set(d, false);
            return since;
        }

        boolean breaks(int d) {
            needDance(d);
            if (now.broken.get(d)) {
                refuse(1);
                return false;
            }
            now.broken.set(d, true);
            note(new Act("breaks", d, 0, 0, 0));
            return true;
        }

        int stumble(int d, int i, int n) {
            needStep(d, i);
            if (!in(n, 0, 9) || dances.get(d).steps.get(i).kind > 2) {
                return refuse(1);
            }
            int before = now.ns.get(d).set(i, n);
            note(new Act("stumble", d, i, before, 0));
            return before;
        }

        int act(int v, int about, int much) {
            needValley(v);
            need(in(about, 0, 7));
            if (!in(much, 1, 99) || now.done[v][about] + much > 9999) {
                return refuse(1);
            }
            now.done[v][about] += much;
            note(new Act("act", v, about, much, 0));
            return now.done[v][about];
        }

        int undo() {
            if (now.acts.isEmpty()) {
                return -1;
            }
            Act act = now.acts.removeLast();
            switch (act.kind) {
                case "years":
                    now.year -= act.a;
                    break;
                case "again":
                    now.danced.set(act.a, act.b);
                    now.broken.set(act.a, act.c == 1);
                    break;
                case "breaks":
                    now.broken.set(act.a, false);
                    break;
                case "stumble":
                    now.ns.get(act.a).set(act.b, act.c);
                    break;
                default:
                    now.done[act.a][act.b] -= act.c;
                    break;
            }
            return now.acts.size();
        }

        int mend(int d, int what) {
            needDance(d);
            need(in(what, 0, 1));
            int[] n = ns(d);
            if (facing(d, n, now.year)) {
                return what == 0 ? 0 : -1;
            }
            for (int i = 0; i < n.length; i++) {
                for (int p = 0; p < 10 && dances.get(d).steps.get(i).kind <= 2; p++) {
                    int[] t = n.clone();
                    t[i] = p;
                    if (facing(d, t, now.year)) {
                        return what == 0 ? 1 : 10 * i + p;
                    }
                }
            }
            for (int i = 0; i < n.length; i++) {
                for (int j = i + 1; j < n.length; j++) {
                    boolean both = dances.get(d).steps.get(i).kind <= 2 && dances.get(d).steps.get(j).kind <= 2;
                    for (int pq = 0; pq < 100 && both; pq++) {
                        int[] t = n.clone();
                        t[i] = pq / 10;
                        t[j] = pq % 10;
                        if (facing(d, t, now.year)) {
                            return what == 0 ? 2 : 100 * (10 * i + pq / 10) + 10 * j + pq % 10;
                        }
                    }
                }
            }
            return -1;
        }

        int costly(int d) {
            needDance(d);
            int[] n = ns(d);
            for (int i = 0; i < n.length && binding(d); i++) {
                for (int p : new int[] {n[i] - 1, n[i] + 1}) {
                    int[] t = n.clone();
                    t[i] = p;
                    if (dances.get(d).steps.get(i).kind <= 2 && in(p, 0, 9) && !facing(d, t, now.year)) {
                        return 10 * i + p;
                    }
                }
            }
            return -1;
        }

        int later(int years) {
            allow(in(years, 0, 99));
            int many = 0;
            for (int d = 0; d < dances.size(); d++) {
                many += !now.broken.get(d) && facing(d, ns(d), now.year + years) ? 1 : 0;
            }
            return many;
        }

        int inTime(int d, int time) {
            needDance(d);
            allow(in(time, 1, 4));
            Dance dance = dances.get(d);
            int many = 0;
            for (int i = 0; i < dance.steps.size(); i++) {
                boolean other = false;
                for (int v : new int[] {dance.leader, dance.follower}) {
                    other |= boundBy(d, i, v) && limitOf(d, i, v, time) != limitOf(d, i, v, dance.time);
                }
                many += other ? 1 : 0;
            }
            return many;
        }

        int apart(int d) {
            needDance(d);
            List<int[]> rows = walk(d, ns(d), now.year);
            int[] r = rows.get(rows.size() - 1);
            return Math.abs(r[0] - r[3]) + Math.abs(r[1] - r[4]);
        }

        List<int[]> contradictions() {
            List<int[]> couples = new ArrayList<>();
            for (int d = 0; d < dances.size(); d++) {
                for (int e = d + 1; e < dances.size(); e++) {
                    boolean any = false;
                    for (int va = 0; va < 8 * valleys.size(); va++) {
                        int one = leastOf(d, va / 8, va % 8);
                        int other = leastOf(e, va / 8, va % 8);
                        any |= one >= 0 && other >= 0 && one != other;
                    }
                    if (any) {
                        couples.add(new int[] {d, e});
                    }
                }
            }
            return couples;
        }

        int against(int what) {
            need(in(what, 0, 1));
            List<int[]> couples = contradictions();
            if (what == 0) {
                return couples.size();
            }
            for (int few = 0; few <= dances.size(); few++) {
                for (int bits = 0; bits < 1 << dances.size(); bits++) {
                    boolean all = Integer.bitCount(bits) == few;
                    for (int[] c : couples) {
                        all &= (bits >> c[0] & 1) == 1 || (bits >> c[1] & 1) == 1;
                    }
                    if (all) {
                        return bits;
                    }
                }
            }
            return -2;
        }

        int help(int v) {
            needValley(v);
            Set<Integer> reached = new HashSet<>();
            spread(v, reached);
            int bits = 0;
            for (int u : reached) {
                bits |= u == v ? 0 : 1 << u;
            }
            return bits;
        }

        void spread(int v, Set<Integer> reached) {
            if (reached.add(v)) {
                for (int d = 0; d < dances.size(); d++) {
                    Dance dance = dances.get(d);
                    if (dance.time == 3 && binding(d) && (dance.leader == v || dance.follower == v)) {
                        spread(dance.leader + dance.follower - v, reached);
                    }
                }
            }
        }

        boolean atOnce(int bits) {
            Set<Integer> busy = new HashSet<>();
            for (int d = 0; d < dances.size(); d++) {
                if ((bits >> d & 1) == 1 && (!busy.add(dances.get(d).leader) | !busy.add(dances.get(d).follower))) {
                    return false;
                }
            }
            return true;
        }

        boolean fits(int d, int[] nights, int most) {
            if (d == dances.size()) {
                return true;
            }
            for (int e = 0; e < most; e++) {
                if (atOnce(nights[e] | 1 << d)) {
                    nights[e] |= 1 << d;
                    if (fits(d + 1, nights, most)) {
                        return true;
                    }
                    nights[e] &= ~(1 << d);
                }
            }
            return false;
        }

        int evenings(int what) {
            need(in(what, 0, 2));
            int few = 0;
            while (!fits(0, new int[8], few)) {
                few++;
            }
            int most = 0;
            for (int bits = 0; bits < 1 << dances.size(); bits++) {
                if (atOnce(bits) && Integer.bitCount(bits) > Integer.bitCount(most)) {
                    most = bits;
                }
            }
            return new int[] {few, Integer.bitCount(most), most}[what];
        }

        int see(int d, int i, int who, int x, int y) {
            needStep(d, i);
            if (now.seen.size() == 8 || !in(who, 0, 1) || !in(x, 0, floor - 1) || !in(y, 0, floor - 1)) {
                return refuse(2);
            }
            now.seen.add(new int[] {d, i, who, x, y});
            return now.seen.size();
        }

        boolean asSeen(int d, int[] n) {
            List<int[]> rows = walk(d, n, now.year);
            for (int[] s : now.seen) {
                if (s[0] == d && (s[1] + 1 >= rows.size() || rows.get(s[1] + 1)[3 * s[2]] != s[3]
                        || rows.get(s[1] + 1)[3 * s[2] + 1] != s[4])) {
                    return false;
                }
            }
            return true;
        }

        int limp(int d, int what) {
            needDance(d);
            need(in(what, 0, 2));
            List<Integer> found = new ArrayList<>();
            int[] n = ns(d);
            for (int ip = 0; ip < 10 * n.length; ip++) {
                int[] t = n.clone();
                t[ip / 10] = ip % 10;
                boolean other = n[ip / 10] != ip % 10 && dances.get(d).steps.get(ip / 10).kind <= 2;
                if (other && asSeen(d, t)) {
                    found.add(ip);
                }
            }
            return new int[] {found.size(), found.isEmpty() ? -1 : found.get(0), asSeen(d, n) ? 1 : 0}[what];
        }

        int gain(int v, int about, int much, int others) {
            return 3 * much - (stamped(v, about, much) ? 20 : 0) - others;
        }

        int game(int one, int other, int about, int what) {
            needValley(one);
            needValley(other);
            need(in(about, 0, 7) && in(what, 0, 1));
            allow(one != other);
            int[][] gains = new int[2][100];
            for (int pq = 0; pq < 100; pq++) {
                gains[0][pq] = gain(one, about, pq / 10, pq % 10);
                gains[1][pq] = gain(other, about, pq % 10, pq / 10);
            }
            int many = 0;
            int first = -1;
            for (int pq = 0; pq < 100; pq++) {
                boolean rests = true;
                for (int k = 0; k < 10; k++) {
                    rests &= gains[0][k * 10 + pq % 10] <= gains[0][pq];
                    rests &= gains[1][pq / 10 * 10 + k] <= gains[1][pq];
                }
                first = rests && many == 0 ? pq : first;
                many += rests ? 1 : 0;
            }
            return what == 0 ? many : first;
        }

        int century(int seed, int n, int what) {
            need(in(what, 0, 2));
            allow(in(n, 0, 40));
            State before = now;
            now = now.copy();
            List<Integer> each = new ArrayList<>();
            int start = Integer.bitCount(bindingBits());
            int s = seed;
            for (int i = 0; i < n; i++) {
                now.year++;
                if (!dances.isEmpty()) {
                    s = s * 1103515245 + 12345;
                    int d = (int) ((s & 0xffffffffL) / 65536 % 32768 % dances.size());
                    s = s * 1103515245 + 12345;
                    int draw = (int) ((s & 0xffffffffL) / 65536 % 32768 % 3);
                    if (draw == 0) {
                        now.danced.set(d, now.year);
                    }
                    if (draw < 2) {
                        now.broken.set(d, draw == 1);
                    }
                }
                each.add(Integer.bitCount(bindingBits()));
            }
            now = before;
            int all = (int) each.stream().filter(k -> k == dances.size()).count();
            int fewest = each.stream().mapToInt(k -> k).min().orElse(start);
            return new int[] {n == 0 ? start : each.get(n - 1), fewest, all}[what];
        }

        void image() {
            kept = now.copy();
        }

        boolean restore() {
            if (kept == null) {
                return false;
            }
            now = kept.copy();
            return true;
        }
    }
}
