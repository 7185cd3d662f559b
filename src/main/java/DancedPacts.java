import java.util.Arrays;
import java.util.NoSuchElementException;

/**
 * Treaties between valleys that are danced: what a ball's text tells, where the envoys come to,
 * what binds whom, and what would mend, hurt or contradict it.
 */
public final class DancedPacts {
    /** There is none. */
    public static final int NONE = -1;

    private static final int MOST_BYTES = 700;
    private static final int MOST_DIGITS = 4;
    private static final int MOST_NUMBER = 9999;
    private static final int MOST_VALLEYS = 6;
    private static final int MOST_DANCES = 8;
    private static final int MOST_STEPS = 10;
    private static final int MOST_ACTS = 40;
    private static final int MOST_SEEN = 8;
    private static final int MOST_N = 9;
    private static final int MOST_TIME = 4;
    private static final int MOST_YEAR = 999;
    private static final int MOST_DONE = 9999;
    private static final int MOST_LIMIT = 99;
    private static final int ABOUTS = 8;
    private static final int USUAL_FLOOR = 12;
    private static final int WALTZ = 3;

    private static final int STEP = 0;
    private static final int TURN = 1;
    private static final int HOP = 2;
    private static final int GLOVE = 3;
    private static final int BOW = 4;

    private static final int LEADER = 0;
    private static final int FOLLOWER = 1;
    private static final int BOTH = 2;

    private static final int REFUSED_TEXT = 0;
    private static final int REFUSED_ACT = 1;
    private static final int REFUSED_SEEN = 2;

    private final int[] tape = new int[MOST_BYTES];
    private int taped;
    private int faultPlace;
    private boolean imaged;
    private final Ball told;
    private final Ball draft;
    private final Reader reader;
    private final State now;
    private final State kept;
    private final State trial;
    private final Dancer dancer;
    private final Healer healer;
    private final Law law;
    private final Couples couples;
    private final Fate fate;

    /** Nobody. */
    public DancedPacts() {
        taped = 0;
        faultPlace = NONE;
        imaged = false;
        told = new Ball();
        draft = new Ball();
        reader = new Reader(draft);
        now = new State();
        kept = new State();
        trial = new State();
        dancer = new Dancer(told);
        healer = new Healer(told, dancer);
        law = new Law(told, now);
        couples = new Couples(told, law);
        fate = new Fate(told, trial, dancer);
    }

    /** Twenty bytes come behind the tape: how many it has; NONE, if they have no room. */
    public int feed(int a, int b, int c, int d, int e) {
        if (taped + 20 > MOST_BYTES) {
            return NONE;
        }
        addBytes(a);
        addBytes(b);
        addBytes(c);
        addBytes(d);
        addBytes(e);
        return taped;
    }

    /** The tape's first n bytes are a BALL: 0, or the FAULT. */
    public int ball(int n) throws IllegalArgumentException {
        if (n < 0 || n > taped) {
            throw new IllegalArgumentException("the tape has not so many bytes");
        }
        taped = 0;
        // A draft is read, so that all stays if the text has a FAULT.
        if (!reader.readText(tape, n)) {
            faultPlace = reader.faultPlace;
            now.refused[REFUSED_TEXT]++;
            return reader.fault;
        }
        faultPlace = NONE;
        told.become(draft);
        now.begin(told);
        imaged = false;
        return 0;
    }

    /** The place of the latest ball()'s FAULT; NONE without. */
    public int fault() {
        return faultPlace;
    }

    /** How many there are of what. */
    public int count(int what) throws NoSuchElementException {
        switch (what) {
            case 0:
                return told.valleys;
            case 1:
                return told.dances;
            case 2:
                return told.floor;
            case 3:
                return now.year;
            case 4:
                return dancer.bindingBits(now, 0);
            case 5:
                law.weighAll(dancer.bindingBits(now, 0));
                return law.countStamped();
            case 6:
                return now.acts;
            case 7:
                return now.seen;
            case 8:
                return taped;
            case 9:
            case 10:
            case 11:
                return now.refused[what - 9];
            default:
                throw new NoSuchElementException("no such count");
        }
    }

    /** The KNEES of a VALLEY. */
    public int knees(int valley) throws NoSuchElementException {
        checkValley(valley);
        return told.knees[valley];
    }

    /** What a DANCE is. */
    public int dance(int dance, int what) throws NoSuchElementException {
        checkDance(dance);
        switch (what) {
            case 0:
                return told.envoy(dance, LEADER);
            case 1:
                return told.envoy(dance, FOLLOWER);
            case 2:
                return told.time[dance];
            case 3:
                return told.steps[dance];
            case 4:
                return now.since(dance);
            case 5:
                return now.broken[dance];
            case 6:
                return isBinding(dance) ? 1 : 0;
            case 7:
                dancer.prepare(now, dance, 0);
                return dancer.walkAll();
            default:
                throw new NoSuchElementException("no such thing of a dance");
        }
    }

    /** What the i-th STEP of a DANCE is. */
    public int step(int dance, int i, int what) throws NoSuchElementException {
        checkStep(dance, i);
        int place = placeOf(dance, i);
        switch (what) {
            case 0:
                return told.kind[place];
            case 1:
                return told.who[place];
            case 2:
                return now.n[place];
            case 3:
                return told.about[place];
            default:
                throw new NoSuchElementException("no such thing of a step");
        }
    }

    /** Where one is behind the i-th STEP (NONE: ahead of all). */
    public int where(int dance, int i, int who, int what) throws NoSuchElementException {
        checkDance(dance);
        if (i != NONE) {
            checkStep(dance, i);
        }
        checkBelow(who, 2);
        checkBelow(what, 3);
        dancer.prepare(now, dance, 0);
        dancer.at.begin(told.floor);
        if (dancer.walk(0, i + 1) != NONE) {
            throw new NoSuchElementException("that step isn't come to");
        }
        if (what == 0) {
            return dancer.at.x[who];
        }
        return what == 1 ? dancer.at.y[who] : dancer.at.side[who];
    }

    /** To how much a VALLEY is BOUND ABOUT something; NONE: to nothing. */
    public int bound(int valley, int about) throws NoSuchElementException {
        checkValley(valley);
        checkBelow(about, ABOUTS);
        law.weighAll(dancer.bindingBits(now, 0));
        return law.boundTo(valley, about);
    }

    /** How many CLAUSES bind a VALLEY, are HIDDEN from it, how many gloves it has. */
    public int clauses(int valley, int what) throws NoSuchElementException {
        checkValley(valley);
        checkBelow(what, 3);
        return law.countOf(valley, what, dancer.bindingBits(now, 0));
    }

    /** What a VALLEY has DONE ABOUT something, whether it has STAMPED by that. */
    public int done(int valley, int about, int what) throws NoSuchElementException {
        checkValley(valley);
        checkBelow(about, ABOUTS);
        checkBelow(what, 2);
        if (what == 0) {
            return now.done[valley * ABOUTS + about];
        }
        law.weighAll(dancer.bindingBits(now, 0));
        return law.hasStamped(valley, about, 0) ? 1 : 0;
    }

    /** YEARS go by: the YEAR; NONE, if they can't. */
    public int years(int many) {
        if (many < 1 || many > 50 || now.year + many > MOST_YEAR) {
            return refuse(REFUSED_ACT);
        }
        now.year += many;
        now.note(State.YEARS_WENT, many, 0, 0);
        return now.year;
    }

    /** A DANCE is danced again: how many YEARS it was. */
    public int again(int dance) throws NoSuchElementException {
        checkDance(dance);
        int since = now.since(dance);
        now.note(State.DANCED, dance, now.broken[dance], now.danced[dance]);
        now.renew(dance);
        return since;
    }

    /** A DANCE is broken off: true; false, if it is already. */
    public boolean breaks(int dance) throws NoSuchElementException {
        checkDance(dance);
        if (now.broken[dance] != 0) {
            refuse(REFUSED_ACT);
            return false;
        }
        now.broken[dance] = 1;
        now.note(State.BROKE, dance, 0, 0);
        return true;
    }

    /** N of a STEP becomes another one: N as it was; NONE, if it can't. */
    public int stumble(int dance, int i, int n) throws NoSuchElementException {
        checkStep(dance, i);
        if (n < 0 || n > MOST_N || !told.changes(dance, i)) {
            return refuse(REFUSED_ACT);
        }
        int place = placeOf(dance, i);
        int before = now.n[place];
        now.n[place] = n;
        now.note(State.STUMBLED, dance, i, before);
        return before;
    }

    /** A VALLEY does so much: all that it has DONE ABOUT it; NONE, if it can't. */
    public int act(int valley, int about, int much) throws NoSuchElementException {
        checkValley(valley);
        checkBelow(about, ABOUTS);
        int place = valley * ABOUTS + about;
        if (much < 1 || much > 99 || now.done[place] + much > MOST_DONE) {
            return refuse(REFUSED_ACT);
        }
        now.done[place] += much;
        now.note(State.DID, place, much, 0);
        return now.done[place];
    }

    /** The last ACT is UNDONE: how many are left; NONE: there is none. */
    public int undo() {
        if (now.acts == 0) {
            return NONE;
        }
        now.takeBack();
        return now.acts;
    }

    /** TO MEND a DANCE: how many STEPS, by which first. */
    public int mend(int dance, int what) throws NoSuchElementException {
        checkDance(dance);
        checkBelow(what, 2);
        dancer.prepare(now, dance, 0);
        if (dancer.endsFacing()) {
            return what == 0 ? 0 : NONE;
        }
        int one = healer.mendByOne();
        if (one != NONE) {
            return what == 0 ? 1 : one;
        }
        int two = healer.mendByTwo();
        return what == 0 && two != NONE ? 2 : two;
    }

    /** THE COSTLIEST STUMBLE: 10 by the STEP and N; NONE: none. */
    public int costly(int dance) throws NoSuchElementException {
        checkDance(dance);
        if (!isBinding(dance)) {
            return NONE;
        }
        return healer.costliest();
    }

    /** How many DANCES will be BINDING in so many YEARS. */
    public int later(int years) throws IllegalArgumentException {
        if (years < 0 || years > 99) {
            throw new IllegalArgumentException("not 0 to 99 years");
        }
        return Integer.bitCount(dancer.bindingBits(now, years));
    }

    /** How many CLAUSES of a DANCE had another LIMIT in another TIME. */
    public int inTime(int dance, int time) throws NoSuchElementException, IllegalArgumentException {
        checkDance(dance);
        if (time < 1 || time > MOST_TIME) {
            throw new IllegalArgumentException("no such time");
        }
        return isBinding(dance) ? law.countChanged(dance, time) : 0;
    }

    /** How many PLACES both are apart at the end. */
    public int apart(int dance) throws NoSuchElementException {
        checkDance(dance);
        dancer.prepare(now, dance, 0);
        dancer.walkAll();
        return dancer.at.distance();
    }

    /** CONTRADICTIONS: how many, THE FEWEST DANCES to be broken off. */
    public int against(int what) throws NoSuchElementException {
        checkBelow(what, 2);
        law.weighAll(dancer.bindingBits(now, 0));
        couples.findContradictions();
        return what == 0 ? couples.countContradictions() : couples.fewestToBreak();
    }

    /** The VALLEYS that a VALLEY must help, as bits. */
    public int help(int valley) throws NoSuchElementException {
        checkValley(valley);
        return couples.reachedFrom(valley, dancer.bindingBits(now, 0));
    }

    /** EVENINGS, AT ONCE. */
    public int evenings(int what) throws NoSuchElementException {
        checkBelow(what, 3);
        couples.findEvenings();
        if (what == 0) {
            return couples.fewestEvenings();
        }
        int most = couples.mostAtOnce();
        return what == 1 ? Integer.bitCount(most) : most;
    }

    /** One was SEEN behind a STEP: how much is SEEN; NONE, if it can't be. */
    public int see(int dance, int i, int who, int x, int y) throws NoSuchElementException {
        checkStep(dance, i);
        boolean known = who == LEADER || who == FOLLOWER;
        if (now.seen >= MOST_SEEN || !known || !told.hasPlace(x, y)) {
            return refuse(REFUSED_SEEN);
        }
        now.witness(dance, i, who, x, y);
        return now.seen;
    }

    /** WHICH LIMP: how many, the first, whether it is so without. */
    public int limp(int dance, int what) throws NoSuchElementException {
        checkDance(dance);
        checkBelow(what, 3);
        dancer.prepare(now, dance, 0);
        if (what == 2) {
            return healer.isAsSeen(now) ? 1 : 0;
        }
        healer.seekLimp(now);
        return what == 0 ? healer.many : healer.first;
    }

    /** All that is SEEN is forgotten. */
    public void forget() {
        now.seen = 0;
    }

    /** A GAME of two VALLEYS: how many couples rest, the first. */
    public int game(int one, int other, int about, int what)
            throws NoSuchElementException, IllegalArgumentException {
        checkValley(one);
        checkValley(other);
        checkBelow(about, ABOUTS);
        checkBelow(what, 2);
        if (one == other) {
            throw new IllegalArgumentException("both are one valley");
        }
        law.weighAll(dancer.bindingBits(now, 0));
        law.play(one, other, about);
        return what == 0 ? law.rests : law.firstRest;
    }

    /** YEARS by a seed: BINDING DANCES at the end, the fewest, YEARS in which all were. */
    public int century(int seed, int n, int what)
            throws NoSuchElementException, IllegalArgumentException {
        checkBelow(what, 3);
        if (n < 0 || n > 40) {
            throw new IllegalArgumentException("not 0 to 40 years");
        }
        trial.become(now);
        fate.pass(seed, n);
        if (what == 0) {
            return fate.last;
        }
        return what == 1 ? fate.fewest : fate.full;
    }

    /** AN IMAGE is kept, in place of another one. */
    public void image() {
        kept.become(now);
        imaged = true;
    }

    /** It is as the IMAGE again: true; false: there is none. */
    public boolean restore() {
        if (!imaged) {
            return false;
        }
        now.become(kept);
        return true;
    }

    private void addBytes(int four) {
        for (int shift = 24; shift >= 0 && taped < MOST_BYTES; shift -= 8) {
            tape[taped] = (four >>> shift) & 255;
            taped++;
        }
    }

    private int refuse(int which) {
        now.refused[which]++;
        return NONE;
    }

    private void checkValley(int valley) {
        if (valley < 0 || valley >= told.valleys) {
            throw new NoSuchElementException("no such valley");
        }
    }

    private void checkDance(int dance) {
        if (dance < 0 || dance >= told.dances) {
            throw new NoSuchElementException("no such dance");
        }
    }

    private void checkStep(int dance, int i) {
        checkDance(dance);
        if (i < 0 || i >= told.steps[dance]) {
            throw new NoSuchElementException("no such step");
        }
    }

    private void checkBelow(int which, int end) {
        if (which < 0 || which >= end) {
            throw new NoSuchElementException("no such thing");
        }
    }

    /** Leaves the DANCE made ready. */
    private boolean isBinding(int dance) {
        dancer.prepare(now, dance, 0);
        return now.broken[dance] == 0 && dancer.endsFacing();
    }

    private static int placeOf(int dance, int i) {
        return dance * MOST_STEPS + i;
    }

    /** What a text tells: it stays till another one is read. */
    private static final class Ball {
        int valleys = 0;
        int dances = 0;
        int floor = USUAL_FLOOR;
        boolean floorTold = false;
        boolean limitTold = false;
        final int[] knees = new int[MOST_VALLEYS];
        final int[] leader = new int[MOST_DANCES];
        final int[] follower = new int[MOST_DANCES];
        final int[] time = new int[MOST_DANCES];
        final int[] steps = new int[MOST_DANCES];
        final int[] kind = new int[MOST_DANCES * MOST_STEPS];
        final int[] who = new int[MOST_DANCES * MOST_STEPS];
        final int[] n = new int[MOST_DANCES * MOST_STEPS];
        final int[] about = new int[MOST_DANCES * MOST_STEPS];
        final Rule rule = new Rule();

        void empty() {
            valleys = 0;
            dances = 0;
            floor = USUAL_FLOOR;
            floorTold = false;
            limitTold = false;
            rule.length = 0;
        }

        void become(Ball other) {
            valleys = other.valleys;
            dances = other.dances;
            floor = other.floor;
            floorTold = other.floorTold;
            limitTold = other.limitTold;
            System.arraycopy(other.knees, 0, knees, 0, MOST_VALLEYS);
            System.arraycopy(other.leader, 0, leader, 0, MOST_DANCES);
            System.arraycopy(other.follower, 0, follower, 0, MOST_DANCES);
            System.arraycopy(other.time, 0, time, 0, MOST_DANCES);
            System.arraycopy(other.steps, 0, steps, 0, MOST_DANCES);
            System.arraycopy(other.kind, 0, kind, 0, MOST_DANCES * MOST_STEPS);
            System.arraycopy(other.who, 0, who, 0, MOST_DANCES * MOST_STEPS);
            System.arraycopy(other.n, 0, n, 0, MOST_DANCES * MOST_STEPS);
            System.arraycopy(other.about, 0, about, 0, MOST_DANCES * MOST_STEPS);
            rule.become(other.rule);
        }

        int envoy(int dance, int side) {
            return side == LEADER ? leader[dance] : follower[dance];
        }

        int kneesOf(int dance, int side) {
            return knees[envoy(dance, side)];
        }

        /** Whether a DANCE is of both VALLEYS, whoever leads. */
        boolean joins(int dance, int one, int other) {
            return leader[dance] == one && follower[dance] == other
                    || leader[dance] == other && follower[dance] == one;
        }

        /** Whether a STEP has an N that may become another one. */
        boolean changes(int dance, int i) {
            int k = kind[placeOf(dance, i)];
            return k != GLOVE && k != BOW;
        }

        boolean goes(int dance, int i) {
            int k = kind[placeOf(dance, i)];
            return k == STEP || k == HOP;
        }

        boolean isOf(int dance, int i, int side) {
            int w = who[placeOf(dance, i)];
            return w == BOTH || w == side;
        }

        boolean hasPlace(int x, int y) {
            return x >= 0 && x < floor && y >= 0 && y < floor;
        }
    }

    /** The LIMIT's expression, each operator behind its parts, so that a loop works it out. */
    private static final class Rule {
        static final int NOT = -11;
        static final int OR = -12;
        static final int AND = -13;
        static final int LESS = -14;
        static final int SAME = -15;
        static final int PLUS = -16;
        static final int MINUS = -17;
        static final int TIMES = -18;
        static final int PARTED = -19;
        static final int VALUES = 6;
        // Six EXPRs within one another leave at most five parts waiting each.
        static final int MOST_WAITING = 40;

        int length = 0;
        final int[] code = new int[MOST_BYTES];
        final int[] waiting = new int[MOST_WAITING];

        static int codeOfValue(int value) {
            return -1 - value;
        }

        void add(int c) {
            if (length < MOST_BYTES) {
                code[length] = c;
                length++;
            }
        }

        void become(Rule other) {
            length = other.length;
            System.arraycopy(other.code, 0, code, 0, MOST_BYTES);
        }

        int worth(int[] values) {
            int top = 0;
            for (int i = 0; i < length; i++) {
                int c = code[i];
                if (c > NOT) {
                    if (top >= MOST_WAITING) {
                        return 0;
                    }
                    waiting[top] = c >= 0 ? c : valueOf(values, -1 - c);
                    top++;
                } else if (c == NOT) {
                    if (top < 1) {
                        return 0;
                    }
                    waiting[top - 1] = waiting[top - 1] == 0 ? 1 : 0;
                } else {
                    if (top < 2) {
                        return 0;
                    }
                    top--;
                    waiting[top - 1] = joined(c, waiting[top - 1], waiting[top]);
                }
            }
            return top == 1 ? waiting[0] : 0;
        }

        private static int valueOf(int[] values, int which) {
            return which < values.length ? values[which] : 0;
        }

        private static int joined(int operator, int a, int b) {
            switch (operator) {
                case OR:
                    return a != 0 || b != 0 ? 1 : 0;
                case AND:
                    return a != 0 && b != 0 ? 1 : 0;
                case LESS:
                    return a < b ? 1 : 0;
                case SAME:
                    return a == b ? 1 : 0;
                case PLUS:
                    return a + b;
                case MINUS:
                    return a - b;
                case TIMES:
                    return a * b;
                default:
                    return b == 0 ? 0 : a / b;
            }
        }
    }

    /** Reads a text into a draft, up to its first FAULT. */
    private static final class Reader {
        private static final int END = 0;
        private static final int WORD = 1;
        private static final int NUMBER = 2;
        private static final int SIGN = 3;
        private static final int BLANK = 4;
        private static final int NO_TOKEN = 5;

        private static final int MISPLACED = 1;
        private static final int TOO_MUCH = 2;
        private static final int UNKNOWN = 3;
        private static final int ILL_PAIRED = 4;
        private static final int REPEATED = 5;

        private static final int MOST_WITHIN = 5;
        private static final int MOST_NOTS = 6;

        private final Ball draft;
        private int[] text;
        private int length;
        private int token;
        private int start;
        private int end;
        int fault;
        int faultPlace;

        Reader(Ball draft) {
            this.draft = draft;
            text = new int[0];
            length = 0;
            token = END;
            start = 0;
            end = 0;
            fault = 0;
            faultPlace = NONE;
        }

        boolean readText(int[] bytes, int many) {
            text = bytes;
            length = Math.min(many, bytes.length);
            end = 0;
            fault = 0;
            faultPlace = NONE;
            draft.empty();
            nextToken();
            for (int line = 0; line <= MOST_BYTES && token != END; line++) {
                if (!readLine() || !takeSign(';')) {
                    return false;
                }
            }
            return true;
        }

        private boolean readLine() {
            if (isWord("valley")) {
                return readValley();
            }
            if (isWord("dance")) {
                return readDance();
            }
            if (isWord("floor")) {
                return readFloor();
            }
            if (isWord("limit")) {
                return readLimit();
            }
            return readStep();
        }

        private boolean readValley() {
            if (draft.valleys >= MOST_VALLEYS) {
                return refuse(TOO_MUCH);
            }
            nextToken();
            int knees = takeNumber(0, 9);
            if (knees == NONE) {
                return false;
            }
            draft.knees[draft.valleys] = knees;
            draft.valleys++;
            return true;
        }

        private boolean readDance() {
            if (draft.dances >= MOST_DANCES) {
                return refuse(TOO_MUCH);
            }
            nextToken();
            int leader = takeValley();
            if (leader == NONE) {
                return false;
            }
            if (isIllPaired(leader, numberHere())) {
                return refuse(ILL_PAIRED);
            }
            int follower = takeValley();
            if (follower == NONE) {
                return false;
            }
            int time = takeNumber(1, MOST_TIME);
            if (time == NONE) {
                return false;
            }
            draft.leader[draft.dances] = leader;
            draft.follower[draft.dances] = follower;
            draft.time[draft.dances] = time;
            draft.steps[draft.dances] = 0;
            draft.dances++;
            return true;
        }

        private boolean readFloor() {
            if (draft.floorTold) {
                return refuse(REPEATED);
            }
            nextToken();
            int floor = takeNumber(4, 20);
            if (floor == NONE) {
                return false;
            }
            draft.floor = floor;
            draft.floorTold = true;
            return true;
        }

        private boolean readLimit() {
            if (draft.limitTold) {
                return refuse(REPEATED);
            }
            nextToken();
            draft.limitTold = true;
            return readExpr(0);
        }

        private boolean readStep() {
            int kind = kindOfWord();
            if (kind == NONE || draft.dances == 0) {
                return refuse(MISPLACED);
            }
            int dance = draft.dances - 1;
            int i = draft.steps[dance];
            if (i >= MOST_STEPS) {
                return refuse(TOO_MUCH);
            }
            nextToken();
            int who = kind == BOW ? BOTH : takeNumber(0, BOTH);
            if (who == NONE) {
                return false;
            }
            int n = kind == BOW || kind == GLOVE ? 0 : takeNumber(0, MOST_N);
            if (n == NONE) {
                return false;
            }
            int about = kind == BOW || kind == TURN ? 0 : takeNumber(0, ABOUTS - 1);
            if (about == NONE) {
                return false;
            }
            int place = placeOf(dance, i);
            draft.kind[place] = kind;
            draft.who[place] = who;
            draft.n[place] = n;
            draft.about[place] = about;
            draft.steps[dance]++;
            return true;
        }

        private int kindOfWord() {
            if (isWord("step")) {
                return STEP;
            }
            if (isWord("turn")) {
                return TURN;
            }
            if (isWord("hop")) {
                return HOP;
            }
            if (isWord("glove")) {
                return GLOVE;
            }
            return isWord("bow") ? BOW : NONE;
        }

        private boolean readExpr(int within) {
            if (within > MOST_WITHIN) {
                return refuse(mayBeginPart() ? TOO_MUCH : MISPLACED);
            }
            if (!readAnd(within)) {
                return false;
            }
            for (int i = 0; i < MOST_BYTES && isWord("or"); i++) {
                nextToken();
                if (!readAnd(within)) {
                    return false;
                }
                draft.rule.add(Rule.OR);
            }
            return true;
        }

        private boolean readAnd(int within) {
            if (!readNot(within)) {
                return false;
            }
            for (int i = 0; i < MOST_BYTES && isWord("and"); i++) {
                nextToken();
                if (!readNot(within)) {
                    return false;
                }
                draft.rule.add(Rule.AND);
            }
            return true;
        }

        private boolean readNot(int within) {
            int nots = 0;
            for (int i = 0; i <= MOST_NOTS && isWord("not"); i++) {
                if (nots == MOST_NOTS) {
                    return refuse(TOO_MUCH);
                }
                nots++;
                nextToken();
            }
            if (!readTest(within)) {
                return false;
            }
            for (int i = 0; i < nots; i++) {
                draft.rule.add(Rule.NOT);
            }
            return true;
        }

        private boolean readTest(int within) {
            if (!readSum(within)) {
                return false;
            }
            int operator = isSign('<') ? Rule.LESS : Rule.SAME;
            if (!isSign('<') && !isSign('=')) {
                return true;
            }
            nextToken();
            if (!readSum(within)) {
                return false;
            }
            draft.rule.add(operator);
            return true;
        }

        private boolean readSum(int within) {
            if (!readProduct(within)) {
                return false;
            }
            for (int i = 0; i < MOST_BYTES && (isSign('+') || isSign('-')); i++) {
                int operator = isSign('+') ? Rule.PLUS : Rule.MINUS;
                nextToken();
                if (!readProduct(within)) {
                    return false;
                }
                draft.rule.add(operator);
            }
            return true;
        }

        private boolean readProduct(int within) {
            if (!readPart(within)) {
                return false;
            }
            for (int i = 0; i < MOST_BYTES && (isSign('*') || isSign('/')); i++) {
                int operator = isSign('*') ? Rule.TIMES : Rule.PARTED;
                nextToken();
                if (!readPart(within)) {
                    return false;
                }
                draft.rule.add(operator);
            }
            return true;
        }

        private boolean readPart(int within) {
            if (isSign('(')) {
                nextToken();
                return readExpr(within + 1) && takeSign(')');
            }
            if (token == WORD) {
                int value = valueOfWord();
                if (value == NONE) {
                    return refuse(UNKNOWN);
                }
                draft.rule.add(Rule.codeOfValue(value));
                nextToken();
                return true;
            }
            int told = takeNumber(0, MOST_NUMBER);
            if (told == NONE) {
                return false;
            }
            draft.rule.add(told);
            return true;
        }

        private int valueOfWord() {
            if (isWord("n")) {
                return Law.VALUE_N;
            }
            if (isWord("about")) {
                return Law.VALUE_ABOUT;
            }
            if (isWord("time")) {
                return Law.VALUE_TIME;
            }
            if (isWord("hop")) {
                return Law.VALUE_HOP;
            }
            if (isWord("place")) {
                return Law.VALUE_PLACE;
            }
            return isWord("lead") ? Law.VALUE_LEAD : NONE;
        }

        /** NONE, with a FAULT, if the TOKEN is no NUMBER from low to high. */
        private int takeNumber(int low, int high) {
            if (token != NUMBER) {
                refuse(MISPLACED);
                return NONE;
            }
            int taken = numberHere();
            if (taken < low || taken > high) {
                refuse(TOO_MUCH);
                return NONE;
            }
            nextToken();
            return taken;
        }

        private int takeValley() {
            int valley = numberHere();
            if (valley != NONE && valley >= draft.valleys) {
                refuse(UNKNOWN);
                return NONE;
            }
            return takeNumber(0, MOST_NUMBER);
        }

        private boolean takeSign(char sign) {
            if (!isSign(sign)) {
                return refuse(MISPLACED);
            }
            nextToken();
            return true;
        }

        /** NONE, if the TOKEN is no NUMBER, or one of too many digits. */
        private int numberHere() {
            if (token != NUMBER || end - start > MOST_DIGITS) {
                return NONE;
            }
            int number = 0;
            for (int i = start; i < end; i++) {
                number = number * 10 + byteAt(i) - '0';
            }
            return number;
        }

        private boolean isIllPaired(int leader, int follower) {
            boolean ill = leader == follower;
            for (int dance = 0; dance < draft.dances; dance++) {
                ill = ill || draft.joins(dance, leader, follower);
            }
            return ill;
        }

        private boolean mayBeginPart() {
            return token == NUMBER || token == WORD || isSign('(');
        }

        private boolean isSign(char sign) {
            return token == SIGN && byteAt(start) == sign;
        }

        private boolean isWord(String word) {
            if (token != WORD || end - start != word.length()) {
                return false;
            }
            for (int i = 0; i < word.length(); i++) {
                if (byteAt(start + i) != word.charAt(i)) {
                    return false;
                }
            }
            return true;
        }

        private boolean refuse(int which) {
            fault = which;
            faultPlace = start;
            return false;
        }

        private void nextToken() {
            start = end;
            for (int i = 0; i < MOST_BYTES && kindAt(start) == BLANK; i++) {
                start++;
            }
            token = kindAt(start);
            end = token == END ? start : start + 1;
            boolean row = token == WORD || token == NUMBER;
            for (int i = 0; i < MOST_BYTES && row && kindAt(end) == token; i++) {
                end++;
            }
        }

        private int byteAt(int place) {
            return place >= 0 && place < length ? text[place] : NONE;
        }

        private int kindAt(int place) {
            if (place < 0 || place >= length) {
                return END;
            }
            int b = text[place];
            if (b == 32 || b == 10) {
                return BLANK;
            }
            if (b >= 'a' && b <= 'z') {
                return WORD;
            }
            if (b >= '0' && b <= '9') {
                return NUMBER;
            }
            boolean sign = b == ';' || b == '(' || b == ')' || b == '+' || b == '-'
                    || b == '*' || b == '/' || b == '<' || b == '=';
            return sign ? SIGN : NO_TOKEN;
        }
    }

    /** What changes by calls, and what an IMAGE keeps. */
    private static final class State {
        static final int YEARS_WENT = 0;
        static final int DANCED = 1;
        static final int BROKE = 2;
        static final int STUMBLED = 3;
        static final int DID = 4;

        private static final int ACT_FIELDS = 4;

        int year = 0;
        int acts = 0;
        int seen = 0;
        final int[] danced = new int[MOST_DANCES];
        final int[] broken = new int[MOST_DANCES];
        final int[] n = new int[MOST_DANCES * MOST_STEPS];
        final int[] done = new int[MOST_VALLEYS * ABOUTS];
        final int[] actRows = new int[MOST_ACTS * ACT_FIELDS];
        final int[] seenDance = new int[MOST_SEEN];
        final int[] seenStep = new int[MOST_SEEN];
        final int[] seenWho = new int[MOST_SEEN];
        final int[] seenX = new int[MOST_SEEN];
        final int[] seenY = new int[MOST_SEEN];
        final int[] refused = new int[3];

        /** All anew, but for what was refused: that is counted over all texts. */
        void begin(Ball ball) {
            year = 0;
            acts = 0;
            seen = 0;
            Arrays.fill(danced, 0);
            Arrays.fill(broken, 0);
            Arrays.fill(done, 0);
            System.arraycopy(ball.n, 0, n, 0, MOST_DANCES * MOST_STEPS);
        }

        void become(State other) {
            year = other.year;
            acts = other.acts;
            seen = other.seen;
            System.arraycopy(other.danced, 0, danced, 0, MOST_DANCES);
            System.arraycopy(other.broken, 0, broken, 0, MOST_DANCES);
            System.arraycopy(other.n, 0, n, 0, MOST_DANCES * MOST_STEPS);
            System.arraycopy(other.done, 0, done, 0, MOST_VALLEYS * ABOUTS);
            System.arraycopy(other.actRows, 0, actRows, 0, MOST_ACTS * ACT_FIELDS);
            System.arraycopy(other.seenDance, 0, seenDance, 0, MOST_SEEN);
            System.arraycopy(other.seenStep, 0, seenStep, 0, MOST_SEEN);
            System.arraycopy(other.seenWho, 0, seenWho, 0, MOST_SEEN);
            System.arraycopy(other.seenX, 0, seenX, 0, MOST_SEEN);
            System.arraycopy(other.seenY, 0, seenY, 0, MOST_SEEN);
            System.arraycopy(other.refused, 0, refused, 0, 3);
        }

        int since(int dance) {
            return year - danced[dance];
        }

        void renew(int dance) {
            danced[dance] = year;
            broken[dance] = 0;
        }

        /** An ACT is kept with what was before it, so that it can be UNDONE. */
        void note(int kind, int one, int other, int before) {
            if (acts >= MOST_ACTS) {
                System.arraycopy(actRows, ACT_FIELDS, actRows, 0, (MOST_ACTS - 1) * ACT_FIELDS);
                acts = MOST_ACTS - 1;
            }
            int row = acts * ACT_FIELDS;
            actRows[row] = kind;
            actRows[row + 1] = one;
            actRows[row + 2] = other;
            actRows[row + 3] = before;
            acts++;
        }

        void takeBack() {
            if (acts < 1) {
                return;
            }
            acts--;
            int row = acts * ACT_FIELDS;
            int one = actRows[row + 1];
            int other = actRows[row + 2];
            int before = actRows[row + 3];
            switch (actRows[row]) {
                case YEARS_WENT:
                    year -= one;
                    break;
                case DANCED:
                    broken[one] = other;
                    danced[one] = before;
                    break;
                case BROKE:
                    broken[one] = 0;
                    break;
                case STUMBLED:
                    n[placeOf(one, other)] = before;
                    break;
                default:
                    done[one] -= other;
                    break;
            }
        }

        void witness(int dance, int i, int who, int x, int y) {
            if (seen >= MOST_SEEN) {
                return;
            }
            seenDance[seen] = dance;
            seenStep[seen] = i;
            seenWho[seen] = who;
            seenX[seen] = x;
            seenY[seen] = y;
            seen++;
        }
    }

    /** Where the LEADER (0) and the FOLLOWER (1) are, and the side to which each looks. */
    private static final class Envoys {
        private static final int RIGHT = 0;
        private static final int LEFT = 2;
        private static final int[] ALONG = {1, 0, -1, 0};
        private static final int[] DOWN = {0, 1, 0, -1};

        final int[] x = new int[2];
        final int[] y = new int[2];
        final int[] side = new int[2];

        void begin(int floor) {
            x[LEADER] = 0;
            x[FOLLOWER] = floor - 1;
            y[LEADER] = floor / 2;
            y[FOLLOWER] = floor / 2;
            side[LEADER] = RIGHT;
            side[FOLLOWER] = LEFT;
        }

        void become(Envoys other) {
            for (int who = LEADER; who <= FOLLOWER; who++) {
                x[who] = other.x[who];
                y[who] = other.y[who];
                side[who] = other.side[who];
            }
        }

        /** False, and neither goes, if one would leave the FLOOR or come to the other one. */
        boolean advance(int who, int leaderFar, int followerFar, int floor) {
            int leaderX = x[LEADER];
            int leaderY = y[LEADER];
            int followerX = x[FOLLOWER];
            int followerY = y[FOLLOWER];
            boolean can = true;
            for (int one = LEADER; one <= FOLLOWER; one++) {
                int far = one == LEADER ? leaderFar : followerFar;
                for (int k = 0; k < far && can && (who == BOTH || who == one); k++) {
                    x[one] += ALONG[side[one]];
                    y[one] += DOWN[side[one]];
                    can = x[one] >= 0 && x[one] < floor && y[one] >= 0 && y[one] < floor
                            && (x[LEADER] != x[FOLLOWER] || y[LEADER] != y[FOLLOWER]);
                }
            }
            if (!can) {
                x[LEADER] = leaderX;
                y[LEADER] = leaderY;
                x[FOLLOWER] = followerX;
                y[FOLLOWER] = followerY;
            }
            return can;
        }

        void turn(int who, int quarters) {
            if (who != FOLLOWER) {
                side[LEADER] = (side[LEADER] + quarters) & 3;
            }
            if (who != LEADER) {
                side[FOLLOWER] = (side[FOLLOWER] + quarters) & 3;
            }
        }

        void changePlaces() {
            int oldX = x[LEADER];
            int oldY = y[LEADER];
            x[LEADER] = x[FOLLOWER];
            y[LEADER] = y[FOLLOWER];
            x[FOLLOWER] = oldX;
            y[FOLLOWER] = oldY;
        }

        boolean areFacing() {
            return looksAtOther(LEADER) && looksAtOther(FOLLOWER);
        }

        private boolean looksAtOther(int who) {
            int dx = x[1 - who] - x[who];
            int dy = y[1 - who] - y[who];
            int along = ALONG[side[who]];
            int down = DOWN[side[who]];
            return dx * down == dy * along && dx * along + dy * down > 0;
        }

        int distance() {
            return Math.abs(x[LEADER] - x[FOLLOWER]) + Math.abs(y[LEADER] - y[FOLLOWER]);
        }
    }

    /** Dances one DANCE, as it is or with other N. */
    private static final class Dancer {
        final Ball told;
        final Envoys at = new Envoys();
        final int[] n = new int[MOST_STEPS];
        int dance = 0;
        int steps = 0;
        int leaderLoss = 0;
        int followerLoss = 0;

        Dancer(Ball told) {
            this.told = told;
        }

        /** A DANCE is made ready, as it will be in so many YEARS, with N of its own to change. */
        void prepare(State state, int which, int ahead) {
            dance = which;
            steps = told.steps[which];
            int since = state.since(which) + ahead;
            leaderLoss = (told.kneesOf(which, LEADER) + since) / 10;
            followerLoss = (told.kneesOf(which, FOLLOWER) + since) / 10;
            for (int i = 0; i < steps; i++) {
                n[i] = state.n[placeOf(which, i)];
            }
        }

        /** The first STEP from 'from' to ahead of 'to' that CAN'T BE; NONE, if all can. */
        int walk(int from, int to) {
            for (int i = from; i < to; i++) {
                if (!takes(i)) {
                    return i;
                }
            }
            return NONE;
        }

        int walkAll() {
            at.begin(told.floor);
            return walk(0, steps);
        }

        boolean endsFacing() {
            at.begin(told.floor);
            return walk(0, steps) == NONE && at.areFacing();
        }

        boolean takes(int i) {
            int place = placeOf(dance, i);
            int who = told.who[place];
            switch (told.kind[place]) {
                case STEP:
                case HOP:
                    return at.advance(who, n[i] - leaderLoss, n[i] - followerLoss, told.floor);
                case TURN:
                    at.turn(who, n[i]);
                    return true;
                case BOW:
                    at.changePlaces();
                    return true;
                default:
                    return true;
            }
        }

        int bindingBits(State state, int ahead) {
            int bits = 0;
            for (int which = 0; which < told.dances; which++) {
                prepare(state, which, ahead);
                if (state.broken[which] == 0 && endsFacing()) {
                    bits |= 1 << which;
                }
            }
            return bits;
        }
    }

    /** Tries other N in the DANCE that is made ready: what mends it, hurts it, explains it. */
    private static final class Healer {
        private final Ball told;
        private final Dancer dancer;
        private final Envoys aheadOfOne = new Envoys();
        private final Envoys aheadOfOther = new Envoys();
        int many = 0;
        int first = NONE;

        Healer(Ball told, Dancer dancer) {
            this.told = told;
            this.dancer = dancer;
        }

        private boolean changes(int i) {
            return told.changes(dancer.dance, i);
        }

        int mendByOne() {
            int found = NONE;
            for (int i = 0; i < dancer.steps && found == NONE; i++) {
                if (changes(i)) {
                    found = firstFacing(i);
                }
            }
            return found;
        }

        private int firstFacing(int i) {
            int before = dancer.n[i];
            int found = NONE;
            for (int n = 0; n <= MOST_N && found == NONE; n++) {
                dancer.n[i] = n;
                if (n != before && dancer.endsFacing()) {
                    found = 10 * i + n;
                }
            }
            dancer.n[i] = before;
            return found;
        }

        int mendByTwo() {
            int found = NONE;
            for (int i = 0; i < dancer.steps && found == NONE; i++) {
                dancer.at.begin(told.floor);
                if (dancer.walk(0, i) != NONE) {
                    return NONE;
                }
                aheadOfOne.become(dancer.at);
                for (int j = i + 1; j < dancer.steps && found == NONE; j++) {
                    if (changes(i) && changes(j)) {
                        found = firstFacingCouple(i, j);
                    }
                }
            }
            return found;
        }

        /** What is danced ahead of each of both is danced once, not for each N of the latter. */
        private int firstFacingCouple(int i, int j) {
            int before = dancer.n[i];
            int found = NONE;
            for (int n = 0; n <= MOST_N && found == NONE; n++) {
                dancer.at.become(aheadOfOne);
                dancer.n[i] = n;
                if (n != before && dancer.walk(i, j) == NONE) {
                    aheadOfOther.become(dancer.at);
                    int other = firstFacingFrom(j);
                    found = other == NONE ? NONE : 100 * (10 * i + n) + other;
                }
            }
            dancer.n[i] = before;
            return found;
        }

        private int firstFacingFrom(int j) {
            int before = dancer.n[j];
            int found = NONE;
            for (int n = 0; n <= MOST_N && found == NONE; n++) {
                dancer.at.become(aheadOfOther);
                dancer.n[j] = n;
                if (n != before && dancer.walk(j, dancer.steps) == NONE && dancer.at.areFacing()) {
                    found = 10 * j + n;
                }
            }
            dancer.n[j] = before;
            return found;
        }

        int costliest() {
            int found = NONE;
            for (int i = 0; i < dancer.steps && found == NONE; i++) {
                if (changes(i)) {
                    found = firstCost(i);
                }
            }
            return found;
        }

        private int firstCost(int i) {
            int before = dancer.n[i];
            int found = NONE;
            for (int n = before - 1; n <= before + 1 && found == NONE; n += 2) {
                dancer.n[i] = n;
                if (n >= 0 && n <= MOST_N && !dancer.endsFacing()) {
                    found = 10 * i + n;
                }
            }
            dancer.n[i] = before;
            return found;
        }

        void seekLimp(State state) {
            many = 0;
            first = NONE;
            for (int i = 0; i < dancer.steps; i++) {
                if (changes(i)) {
                    seekLimpOf(state, i);
                }
            }
        }

        private void seekLimpOf(State state, int i) {
            int before = dancer.n[i];
            for (int n = 0; n <= MOST_N; n++) {
                dancer.n[i] = n;
                if (n != before && isAsSeen(state)) {
                    many++;
                    first = first == NONE ? 10 * i + n : first;
                }
            }
            dancer.n[i] = before;
        }

        /** Whether all that is SEEN of the DANCE is so, with N as they are made ready. */
        boolean isAsSeen(State state) {
            dancer.at.begin(told.floor);
            int due = 0;
            for (int k = 0; k < state.seen; k++) {
                due += state.seenDance[k] == dancer.dance ? 1 : 0;
            }
            for (int i = 0; i < dancer.steps && due > 0; i++) {
                if (!dancer.takes(i)) {
                    return false;
                }
                for (int k = 0; k < state.seen; k++) {
                    if (state.seenDance[k] == dancer.dance && state.seenStep[k] == i) {
                        if (!isThere(state, k)) {
                            return false;
                        }
                        due--;
                    }
                }
            }
            return due == 0;
        }

        private boolean isThere(State state, int k) {
            int who = state.seenWho[k];
            return dancer.at.x[who] == state.seenX[k] && dancer.at.y[who] == state.seenY[k];
        }
    }

    /** What CLAUSES bind whom to. */
    private static final class Law {
        static final int VALUE_N = 0;
        static final int VALUE_ABOUT = 1;
        static final int VALUE_TIME = 2;
        static final int VALUE_HOP = 3;
        static final int VALUE_PLACE = 4;
        static final int VALUE_LEAD = 5;

        private final Ball told;
        private final State now;
        private final int[] values = new int[Rule.VALUES];
        private final int[] least = new int[MOST_DANCES * 2 * ABOUTS];
        int rests = 0;
        int firstRest = NONE;

        Law(Ball told, State now) {
            this.told = told;
            this.now = now;
        }

        private static int rowOf(int dance, int side, int about) {
            return (dance * 2 + side) * ABOUTS + about;
        }

        /** The least LIMITS are worked out once, for all that a call asks of them then. */
        void weighAll(int binding) {
            Arrays.fill(least, NONE);
            for (int dance = 0; dance < told.dances; dance++) {
                if ((binding >> dance & 1) != 0) {
                    weigh(dance, LEADER);
                    weigh(dance, FOLLOWER);
                }
            }
        }

        private void weigh(int dance, int side) {
            for (int i = 0; i < told.steps[dance]; i++) {
                if (isBoundBy(dance, i, side)) {
                    int row = rowOf(dance, side, told.about[placeOf(dance, i)]);
                    int limit = limitOf(dance, i, side, told.time[dance]);
                    if (least[row] == NONE || limit < least[row]) {
                        least[row] = limit;
                    }
                }
            }
        }

        int leastOf(int dance, int side, int about) {
            return least[rowOf(dance, side, about)];
        }

        private boolean isClause(int dance, int i) {
            return told.goes(dance, i) && now.n[placeOf(dance, i)] != 0;
        }

        private boolean isBoundBy(int dance, int i, int side) {
            return isClause(dance, i) && told.isOf(dance, i, side)
                    && !isGloved(dance, side, told.about[placeOf(dance, i)]);
        }

        private boolean isGloved(int dance, int side, int about) {
            for (int i = 0; i < told.steps[dance]; i++) {
                int place = placeOf(dance, i);
                if (told.kind[place] == GLOVE && told.about[place] == about
                        && told.isOf(dance, i, side)) {
                    return true;
                }
            }
            return false;
        }

        private int limitOf(int dance, int i, int side, int time) {
            int place = placeOf(dance, i);
            if (!told.limitTold) {
                return now.n[place] * time;
            }
            values[VALUE_N] = now.n[place];
            values[VALUE_ABOUT] = told.about[place];
            values[VALUE_TIME] = time;
            values[VALUE_HOP] = told.kind[place] == HOP ? 1 : 0;
            values[VALUE_PLACE] = i;
            values[VALUE_LEAD] = side == LEADER ? 1 : 0;
            return Math.max(0, Math.min(MOST_LIMIT, told.rule.worth(values)));
        }

        int boundTo(int valley, int about) {
            int to = NONE;
            for (int dance = 0; dance < told.dances; dance++) {
                int side = sideOf(dance, valley);
                int limit = side == NONE ? NONE : least[rowOf(dance, side, about)];
                if (limit != NONE && (to == NONE || limit < to)) {
                    to = limit;
                }
            }
            return to;
        }

        private int sideOf(int dance, int valley) {
            if (told.leader[dance] == valley) {
                return LEADER;
            }
            return told.follower[dance] == valley ? FOLLOWER : NONE;
        }

        boolean hasStamped(int valley, int about, int besides) {
            int to = boundTo(valley, about);
            return to != NONE && now.done[valley * ABOUTS + about] + besides > to;
        }

        int countStamped() {
            int many = 0;
            for (int valley = 0; valley < told.valleys; valley++) {
                boolean stamped = false;
                for (int about = 0; about < ABOUTS; about++) {
                    stamped = stamped || hasStamped(valley, about, 0);
                }
                many += stamped ? 1 : 0;
            }
            return many;
        }

        /** CLAUSES that bind a VALLEY (what 0), are HIDDEN from it (1), its gloves (2). */
        int countOf(int valley, int what, int binding) {
            int many = 0;
            for (int dance = 0; dance < told.dances; dance++) {
                int side = sideOf(dance, valley);
                if (side != NONE && (binding >> dance & 1) != 0) {
                    many += countIn(dance, side, what);
                }
            }
            return many;
        }

        private int countIn(int dance, int side, int what) {
            int many = 0;
            for (int i = 0; i < told.steps[dance]; i++) {
                int kind = told.kind[placeOf(dance, i)];
                boolean counts = what == 0 && isBoundBy(dance, i, side)
                        || what == 1 && kind == HOP && isClause(dance, i)
                        && !told.isOf(dance, i, side)
                        || what == 2 && kind == GLOVE && told.isOf(dance, i, side);
                many += counts ? 1 : 0;
            }
            return many;
        }

        int countChanged(int dance, int time) {
            int many = 0;
            for (int i = 0; i < told.steps[dance]; i++) {
                if (changesIn(dance, i, LEADER, time) || changesIn(dance, i, FOLLOWER, time)) {
                    many++;
                }
            }
            return many;
        }

        private boolean changesIn(int dance, int i, int side, int time) {
            return isBoundBy(dance, i, side)
                    && limitOf(dance, i, side, time) != limitOf(dance, i, side, told.time[dance]);
        }

        /** What the other one does costs as much whatever one chooses, so it is left out. */
        private int gain(int valley, int about, int much) {
            return 3 * much - (hasStamped(valley, about, much) ? 20 : 0);
        }

        private int bestGain(int valley, int about) {
            int best = gain(valley, about, 0);
            for (int much = 1; much <= 9; much++) {
                best = Math.max(best, gain(valley, about, much));
            }
            return best;
        }

        void play(int one, int other, int about) {
            int bestOfOne = bestGain(one, about);
            int bestOfOther = bestGain(other, about);
            rests = 0;
            firstRest = NONE;
            for (int couple = 0; couple < 100; couple++) {
                if (gain(one, about, couple / 10) == bestOfOne
                        && gain(other, about, couple % 10) == bestOfOther) {
                    rests++;
                    firstRest = firstRest == NONE ? couple : firstRest;
                }
            }
        }
    }

    /** What DANCES are to one another: contradictions, help, evenings. */
    private static final class Couples {
        private final Ball told;
        private final Law law;
        private final int[] contradicts = new int[MOST_DANCES];
        private final int[] evenings = new int[1 << MOST_DANCES];

        Couples(Ball told, Law law) {
            this.told = told;
            this.law = law;
        }

        void findContradictions() {
            Arrays.fill(contradicts, 0);
            for (int one = 0; one < told.dances; one++) {
                for (int other = one + 1; other < told.dances; other++) {
                    if (contradict(one, other)) {
                        contradicts[one] |= 1 << other;
                    }
                }
            }
        }

        private boolean contradict(int one, int other) {
            for (int sides = 0; sides < 4; sides++) {
                int side = sides >> 1;
                int otherSide = sides & 1;
                if (told.envoy(one, side) == told.envoy(other, otherSide)) {
                    for (int about = 0; about < ABOUTS; about++) {
                        int limit = law.leastOf(one, side, about);
                        int otherLimit = law.leastOf(other, otherSide, about);
                        if (limit != NONE && otherLimit != NONE && limit != otherLimit) {
                            return true;
                        }
                    }
                }
            }
            return false;
        }

        int countContradictions() {
            int many = 0;
            for (int one = 0; one < told.dances; one++) {
                many += Integer.bitCount(contradicts[one]);
            }
            return many;
        }

        int fewestToBreak() {
            int all = (1 << told.dances) - 1;
            int fewest = all;
            for (int broken = 0; broken <= all; broken++) {
                if (Integer.bitCount(broken) < Integer.bitCount(fewest) && endsAll(broken)) {
                    fewest = broken;
                }
            }
            return fewest;
        }

        private boolean endsAll(int broken) {
            for (int one = 0; one < told.dances; one++) {
                if ((broken >> one & 1) == 0 && (contradicts[one] & ~broken) != 0) {
                    return false;
                }
            }
            return true;
        }

        int reachedFrom(int valley, int binding) {
            int reached = 1 << valley;
            // A round that reaches none is the last: each other one reaches a VALLEY more.
            for (int round = 0; round < MOST_VALLEYS; round++) {
                for (int dance = 0; dance < told.dances; dance++) {
                    int both = bothOf(dance);
                    boolean waltz = told.time[dance] == WALTZ && (binding >> dance & 1) != 0;
                    if (waltz && (reached & both) != 0) {
                        reached |= both;
                    }
                }
            }
            return reached & ~(1 << valley);
        }

        private int bothOf(int dance) {
            return 1 << told.leader[dance] | 1 << told.follower[dance];
        }

        /** The fewest evenings of each set of DANCES: one for a part, then those of the rest. */
        void findEvenings() {
            int end = 1 << told.dances;
            evenings[0] = 0;
            for (int set = 1; set < end; set++) {
                evenings[set] = onOneEvening(set) ? 1 : MOST_DANCES;
                for (int part = 1; part < set; part++) {
                    if ((part & ~set) == 0 && evenings[part] == 1) {
                        evenings[set] = Math.min(evenings[set], 1 + evenings[set ^ part]);
                    }
                }
            }
        }

        private boolean onOneEvening(int set) {
            int busy = 0;
            for (int dance = 0; dance < told.dances; dance++) {
                if ((set >> dance & 1) != 0) {
                    if ((busy & bothOf(dance)) != 0) {
                        return false;
                    }
                    busy |= bothOf(dance);
                }
            }
            return true;
        }

        int fewestEvenings() {
            return evenings[(1 << told.dances) - 1];
        }

        int mostAtOnce() {
            int most = 0;
            for (int set = 1; set < 1 << told.dances; set++) {
                if (evenings[set] == 1 && Integer.bitCount(set) > Integer.bitCount(most)) {
                    most = set;
                }
            }
            return most;
        }
    }

    /** YEARS by a seed, on a trial of their own: nothing of them happens. */
    private static final class Fate {
        private final Ball told;
        private final State trial;
        private final Dancer dancer;
        private int seed = 0;
        int last = 0;
        int fewest = 0;
        int full = 0;

        Fate(Ball told, State trial, Dancer dancer) {
            this.told = told;
            this.trial = trial;
            this.dancer = dancer;
        }

        void pass(int firstSeed, int many) {
            seed = firstSeed;
            full = 0;
            last = Integer.bitCount(dancer.bindingBits(trial, 0));
            fewest = last;
            for (int i = 0; i < many; i++) {
                trial.year++;
                drawOne();
                last = Integer.bitCount(dancer.bindingBits(trial, 0));
                fewest = i == 0 ? last : Math.min(fewest, last);
                full += last == told.dances ? 1 : 0;
            }
        }

        private void drawOne() {
            if (told.dances == 0) {
                return;
            }
            int dance = draw(told.dances);
            int what = draw(3);
            if (what == 0) {
                trial.renew(dance);
            } else if (what == 1) {
                trial.broken[dance] = 1;
            }
        }

        private int draw(int of) {
            seed = seed * 1103515245 + 12345;
            return of < 1 ? 0 : (seed >>> 16 & 32767) % of;
        }
    }
}
