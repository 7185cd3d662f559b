import java.util.NoSuchElementException;

/** Each promise by hand: ordinary inputs, the edges that the document names, wrong inputs. */
public final class PromisesTest {
    private static int wrong = 0;

    private static final String TWO = "valley 0;valley 0;";
    private static final String PAIR = TWO + "dance 0 1 2;";
    private static final String BALL = "valley 0;valley 5;valley 9;"
            + "dance 0 1 3;step 2 4 1;turn 2 2;turn 2 2;hop 0 2 2;glove 1 1;"
            + "dance 1 2 1;step 0 3 1;turn 1 1;"
            + "dance 0 2 3;step 0 9 0;bow;step 1 2 1;";

    private interface Call {
        Object answer();
    }

    private static void due(String what, Object want, Call call) {
        Object got;
        try {
            got = call.answer();
        } catch (NoSuchElementException e) {
            got = "NSE";
        } catch (IllegalArgumentException e) {
            got = "IAE";
        } catch (RuntimeException e) {
            got = e.toString();
        }
        if (!want.equals(got)) {
            wrong++;
            System.out.println(what + " answered " + got + ", due is " + want);
        }
    }

    private static int feedText(DancedPacts x, String text) {
        int taped = 0;
        StringBuilder padded = new StringBuilder(text);
        while (padded.length() % 20 != 0) {
            padded.append(' ');
        }
        for (int i = 0; i < padded.length(); i += 20) {
            int[] f = new int[5];
            for (int k = 0; k < 20; k++) {
                f[k / 4] = f[k / 4] << 8 | padded.charAt(i + k) & 255;
            }
            taped = x.feed(f[0], f[1], f[2], f[3], f[4]);
        }
        return taped;
    }

    private static int tell(DancedPacts x, String text) {
        feedText(x, text);
        return x.ball(text.length());
    }

    private static DancedPacts told(String text) {
        DancedPacts x = new DancedPacts();
        int fault = tell(x, text);
        if (fault != 0) {
            wrong++;
            System.out.println("FAULT " + fault + " at " + x.fault() + " of: " + text);
        }
        return x;
    }

    private static String times(String text, int many) {
        return text.repeat(many);
    }

    public static void main(String[] args) {
        Watchdog.start();
        aNewObject();
        feed();
        ball();
        faultsOfLines();
        faultsOfExpressions();
        count();
        dance();
        step();
        where();
        whatCannotBe();
        facing();
        bound();
        limits();
        clauses();
        done();
        years();
        again();
        breaks();
        stumble();
        act();
        undo();
        mend();
        costly();
        later();
        inTime();
        apart();
        against();
        help();
        evenings();
        see();
        limp();
        game();
        century();
        image();
        System.out.println(wrong == 0 ? "all promises hold" : wrong + " answers are wrong");
        if (wrong != 0) {
            System.exit(1);
        }
    }

    private static void aNewObject() {
        DancedPacts x = new DancedPacts();
        for (int what = 0; what <= 11; what++) {
            int w = what;
            due("new count(" + w + ")", what == 2 ? 12 : 0, () -> x.count(w));
        }
        due("new fault", -1, x::fault);
        due("new undo", -1, x::undo);
        due("new restore", false, x::restore);
        due("new knees", "NSE", () -> x.knees(0));
        due("new dance", "NSE", () -> x.dance(0, 0));
        due("new step", "NSE", () -> x.step(0, 0, 0));
        due("new where", "NSE", () -> x.where(0, -1, 0, 0));
        due("new bound", "NSE", () -> x.bound(0, 0));
        due("new years", 3, () -> x.years(3));
        due("new later", 0, () -> x.later(0));
        due("NONE", -1, () -> DancedPacts.NONE);
    }

    private static void feed() {
        DancedPacts x = new DancedPacts();
        for (int i = 1; i <= 35; i++) {
            int bytes = 20 * i;
            due("feed " + i, bytes, () -> x.feed(0x20202020, 0x20202020, 0x20202020, 0x20202020, 0x0a0a0a0a));
        }
        due("feed too much", -1, () -> x.feed(0, 0, 0, 0, 0));
        due("tape stays", 700, () -> x.count(8));
        due("all blanks", 0, () -> x.ball(700));
        due("tape is empty", 0, () -> x.count(8));
        due("highest bits", 20, () -> x.feed(0x20FF2020, -1, -1, -1, -1));
        due("no token", 1, () -> x.ball(20));
        due("no token at", 1, x::fault);
        due("20 more", 20, () -> x.feed(0x76616c6c, 0x65792039, 0x3b666c6f, 0x6f722034, 0x3b202020));
        due("valley 9;floor 4;", 0, () -> x.ball(17));
        due("its knees", 9, () -> x.knees(0));
        due("its floor", 4, () -> x.count(2));
    }

    private static void ball() {
        DancedPacts x = new DancedPacts();
        feedText(x, BALL);
        due("n below 0", "IAE", () -> x.ball(-1));
        due("n above the tape", "IAE", () -> x.ball(161));
        due("the tape stays", 160, () -> x.count(8));
        due("nothing refused", 0, () -> x.count(9));
        due("ball", 0, () -> x.ball(158));
        due("three dances", 3, () -> x.count(1));
        x.years(7);
        x.act(0, 1, 5);
        x.stumble(0, 0, 3);
        x.breaks(1);
        x.see(0, 0, 0, 1, 1);
        x.image();
        due("a fault", 1, () -> tell(x, "valley"));
        due("its place", 6, x::fault);
        due("refused", 1, () -> x.count(9));
        due("the tape is empty", 0, () -> x.count(8));
        due("a thrown one", "IAE", () -> x.ball(1));
        due("leaves the place", 6, x::fault);
        due("three dances still", 3, () -> x.count(1));
        due("the year still", 7, () -> x.count(3));
        due("acts still", 4, () -> x.count(6));
        due("seen still", 1, () -> x.count(7));
        due("done still", 5, () -> x.done(0, 1, 0));
        due("n still", 3, () -> x.step(0, 0, 2));
        due("the image still", true, x::restore);
        x.years(0);
        x.see(0, 0, 2, 0, 0);
        due("refused as of the image, and more", 0, () -> x.count(9));
        due("a fault again", 2, () -> tell(x, "floor 3;"));
        due("the same again", 0, () -> tell(x, BALL));
        due("no place", -1, x::fault);
        due("year 0", 0, () -> x.count(3));
        due("no acts", 0, () -> x.count(6));
        due("none to undo", -1, x::undo);
        due("none seen", 0, () -> x.count(7));
        due("none done", 0, () -> x.done(0, 1, 0));
        due("n as told", 4, () -> x.step(0, 0, 2));
        due("not broken off", 0, () -> x.dance(1, 5));
        due("danced now", 0, () -> x.dance(1, 4));
        due("no image", false, x::restore);
        due("texts refused", 1, () -> x.count(9));
        due("acts refused", 1, () -> x.count(10));
        due("seen refused", 1, () -> x.count(11));
        due("a smaller one", 0, () -> tell(x, "valley 1;"));
        due("no dances", 0, () -> x.count(1));
        due("one valley", 1, () -> x.count(0));
        due("empty", 0, () -> x.ball(0));
        due("no valleys", 0, () -> x.count(0));
        due("floor and limit once a text", 0, () -> tell(x, "floor 5;limit 1;"));
        due("and again", 0, () -> tell(x, "floor 6;limit 1;"));
        due("floor 6", 6, () -> x.count(2));
        due("without", 0, () -> tell(x, PAIR + "step 0 5 3;"));
        due("floor 12", 12, () -> x.count(2));
        due("the rule is gone", 10, () -> x.bound(0, 3));
        feedText(x, "valley 1;valley 2;");
        due("the first bytes alone", 0, () -> x.ball(9));
        due("one valley of two", 1, () -> x.count(0));
    }

    private static void fault(String text, int fault, int place) {
        DancedPacts x = new DancedPacts();
        due("FAULT of " + text, fault, () -> tell(x, text));
        due("its place in " + text, place, x::fault);
        due("refused of " + text, fault == 0 ? 0 : 1, () -> x.count(9));
    }

    private static void faultsOfLines() {
        fault("", 0, -1);
        fault(" \n ", 0, -1);
        fault("valley 0", 1, 8);
        fault("valley 0  \n", 1, 11);
        fault("valley", 1, 6);
        fault("valley ;", 1, 7);
        fault("valley x;", 1, 7);
        fault("valley 9;", 0, -1);
        fault("valley 10;", 2, 7);
        fault("valley 0009;", 0, -1);
        fault("valley 00009;", 2, 7);
        fault("valley 99999999999999999999;", 2, 7);
        fault("valley 4294967297;", 2, 7);
        fault("valley5;valley\n7 ; ", 0, -1);
        fault("valley 5 5;", 1, 9);
        fault("valley 5 55555;", 1, 9);
        fault("valley\t5;", 1, 6);
        fault("Valley 5;", 1, 0);
        fault("valley 5;A", 1, 9);
        fault("vally 0;", 1, 0);
        fault("valleys 0;", 1, 0);
        fault("5;", 1, 0);
        fault(";", 1, 0);
        fault("valley 1;;", 1, 9);
        fault(times("valley 0;", 6), 0, -1);
        fault(times("valley 0;", 7), 2, 54);
        fault(times("valley 0;", 6) + "valley", 2, 54);
        fault("dance 0 1 1;", 3, 6);
        fault("valley 0;dance 0 1 1;", 3, 17);
        fault("valley 0;dance 0 9999 1;", 3, 17);
        fault("valley 0;dance 1 0 1;", 3, 15);
        fault("valley 0;dance 0 0 1;", 4, 17);
        fault("valley 0;dance 12345 0 1;", 2, 15);
        fault("valley 0;dance 0 00000 1;", 2, 17);
        fault("valley 0;dance 0 ; 1;", 1, 17);
        fault(TWO + "dance 0 1 0;", 2, 28);
        fault(TWO + "dance 0 1 5;", 2, 28);
        fault(TWO + "dance 0 1 4;", 0, -1);
        fault(TWO + "dance 0 1;", 1, 27);
        fault(PAIR + "dance 1 0 1;", 4, 38);
        fault(PAIR + "dance 0 1 1;", 4, 38);
        fault(PAIR + "dance 0 1", 4, 38);
        fault(PAIR + "valley 0;dance 0 2 1;dance 2 1 1;", 0, -1);
        fault("step 0 1 0;", 1, 0);
        fault("turn 0 1;", 1, 0);
        fault("hop 0 1 0;", 1, 0);
        fault("glove 0 1;", 1, 0);
        fault("bow;", 1, 0);
        fault(TWO + "bow;dance 0 1 1;", 1, 18);
        fault(PAIR + "step 3 0 0;", 2, 35);
        fault(PAIR + "step 2 10 0;", 2, 37);
        fault(PAIR + "step 2 9 8;", 2, 39);
        fault(PAIR + "step 2 9 7;hop 2 9 7;", 0, -1);
        fault(PAIR + "step 2 9;", 1, 38);
        fault(PAIR + "turn 2 9 0;", 1, 39);
        fault(PAIR + "turn 2 10;", 2, 37);
        fault(PAIR + "turn 3 1;", 2, 35);
        fault(PAIR + "glove 2 8;", 2, 38);
        fault(PAIR + "glove 3 7;", 2, 36);
        fault(PAIR + "glove 2 7;bow;", 0, -1);
        fault(PAIR + "bow 2;", 1, 34);
        fault(PAIR + times("bow;", 10), 0, -1);
        fault(PAIR + times("bow;", 10) + "glove 0 0;", 2, 70);
        fault(PAIR + times("bow;", 10) + "valley 0;dance 0 2 1;" + times("bow;", 10), 0, -1);
        fault("floor 3;", 2, 6);
        fault("floor 4;", 0, -1);
        fault("floor 20;", 0, -1);
        fault("floor 21;", 2, 6);
        fault("floor 20;floor 20;", 5, 9);
        fault("floor 20;floor 99;", 5, 9);
        fault("floor n;", 1, 6);
        String pairs = times("valley 0;", 6) + "dance 0 1 1;dance 0 2 1;dance 0 3 1;dance 0 4 1;"
                + "dance 0 5 1;dance 1 2 1;dance 1 3 1;dance 1 4 1;";
        fault(pairs, 0, -1);
        fault(pairs + "dance 1 5 1;", 2, pairs.length());
        fault(pairs + "dance", 2, pairs.length());
    }

    private static void faultsOfExpressions() {
        fault("limit ;", 1, 6);
        fault("limit", 1, 5);
        fault("limit 1", 1, 7);
        fault("limit 9999;", 0, -1);
        fault("limit 12345;", 2, 6);
        fault("limit x;", 3, 6);
        fault("limit and;", 3, 6);
        fault("limit valley;", 3, 6);
        fault("limit nn;", 3, 6);
        fault("limit step;", 3, 6);
        fault("limit n+about*time/hop-place<lead;", 0, -1);
        fault("limit 1 + not 1;", 3, 10);
        fault("limit 1 < not 1;", 3, 10);
        fault("limit not;", 1, 9);
        fault("limit not x;", 3, 10);
        fault("limit 1 x;", 1, 8);
        fault("limit 1 not 1;", 1, 8);
        fault("limit 1 12345;", 1, 8);
        fault("limit 1 12;", 1, 8);
        fault("limit 1<2<3;", 1, 9);
        fault("limit 1<2=3;", 1, 9);
        fault("limit 1=2 and 3<4 or not 5=6;", 0, -1);
        fault("limit (1<2)<3;", 0, -1);
        fault("limit 1+;", 1, 8);
        fault("limit -1;", 1, 6);
        fault("limit 1 or;", 1, 10);
        fault("limit (1;", 1, 8);
        fault("limit 1);", 1, 7);
        fault("limit ();", 1, 7);
        fault("limit (1))", 1, 9);
        fault("limit 1>2;", 1, 7);
        fault("limit (((((1)))));", 0, -1);
        fault("limit ((((((1))))));", 2, 12);
        fault("limit ((((((x", 2, 12);
        fault("limit ((((((not", 2, 12);
        fault("limit ((((((12345", 2, 12);
        fault("limit (((((((", 2, 12);
        fault("limit ((((((", 1, 12);
        fault("limit ((((((  ", 1, 14);
        fault("limit ((((((;", 1, 12);
        fault("limit (((((()", 1, 12);
        fault("limit ((((((!", 1, 12);
        fault("limit (((((1)))))+(((((1)))));", 0, -1);
        fault("limit " + times("not ", 6) + "1;", 0, -1);
        fault("limit " + times("not ", 7) + "1;", 2, 30);
        fault("limit " + times("not ", 6) + "(" + times("not ", 6) + "1) and "
                + times("not ", 6) + "1;", 0, -1);
        fault("limit " + times("not ", 6) + "(" + times("not ", 7) + "1);", 2, 55);
        fault("limit 1;limit 1;", 5, 8);
        fault("limit 1;limit", 5, 8);
        fault("limit 1;floor 5;limit 1;", 5, 16);
        fault("limit 1" + times("+1", 345) + ";", 0, -1);
    }

    private static void count() {
        DancedPacts x = told(BALL + "floor 14;");
        due("valleys", 3, () -> x.count(0));
        due("dances", 3, () -> x.count(1));
        due("floor", 14, () -> x.count(2));
        due("binding", 1, () -> x.count(4));
        due("what -1", "NSE", () -> x.count(-1));
        due("what 12", "NSE", () -> x.count(12));
        due("knees 0", 0, () -> x.knees(0));
        due("knees 1", 5, () -> x.knees(1));
        due("knees 2", 9, () -> x.knees(2));
        due("knees 3", "NSE", () -> x.knees(3));
        due("knees -1", "NSE", () -> x.knees(-1));
        DancedPacts y = told(TWO + "valley 0;dance 0 1 1;turn 0 1;dance 0 2 1;dance 1 2 1;bow;bow;");
        due("binding 110", 6, () -> y.count(4));
        y.breaks(2);
        due("binding 010", 2, () -> y.count(4));
    }

    private static void dance() {
        DancedPacts x = told(BALL);
        int[] first = {0, 1, 3, 5, 0, 0, 1, -1};
        int[] last = {0, 2, 3, 3, 0, 0, 0, -1};
        for (int what = 0; what < 8; what++) {
            int w = what;
            due("dance 0 " + w, first[w], () -> x.dance(0, w));
            due("dance 2 " + w, last[w], () -> x.dance(2, w));
        }
        due("dance 1 leads", 1, () -> x.dance(1, 0));
        due("dance 1 follows", 2, () -> x.dance(1, 1));
        due("dance 1 time", 1, () -> x.dance(1, 2));
        due("dance 3", "NSE", () -> x.dance(3, 0));
        due("dance -1", "NSE", () -> x.dance(-1, 0));
        due("dance what 8", "NSE", () -> x.dance(0, 8));
        due("dance what -1", "NSE", () -> x.dance(0, -1));
        x.years(3);
        x.breaks(0);
        due("dance 0 since", 3, () -> x.dance(0, 4));
        due("dance 0 broken", 1, () -> x.dance(0, 5));
        due("dance 0 binds no more", 0, () -> x.dance(0, 6));
        due("dance 0 can be still", -1, () -> x.dance(0, 7));
    }

    private static void step() {
        DancedPacts x = told(PAIR + "step 0 1 2;turn 1 9;hop 2 3 7;glove 1 6;bow;");
        int[][] rows = {{0, 0, 1, 2}, {1, 1, 9, 0}, {2, 2, 3, 7}, {3, 1, 0, 6}, {4, 2, 0, 0}};
        for (int i = 0; i < 5; i++) {
            for (int what = 0; what < 4; what++) {
                int k = i;
                int w = what;
                due("step " + k + " " + w, rows[k][w], () -> x.step(0, k, w));
            }
        }
        due("step 5", "NSE", () -> x.step(0, 5, 0));
        due("step -1", "NSE", () -> x.step(0, -1, 0));
        due("step of no dance", "NSE", () -> x.step(1, 0, 0));
        due("step what 4", "NSE", () -> x.step(0, 0, 4));
        due("step what -1", "NSE", () -> x.step(0, 0, -1));
    }

    private static void at(DancedPacts x, int i, int who, int px, int py, int side) {
        due("x of " + who + " behind " + i, px, () -> x.where(0, i, who, 0));
        due("y of " + who + " behind " + i, py, () -> x.where(0, i, who, 1));
        due("side of " + who + " behind " + i, side, () -> x.where(0, i, who, 2));
    }

    private static void where() {
        DancedPacts x = told("valley 9;valley 1;floor 9;dance 0 1 4;step 0 2 0;turn 2 1;hop 2 3 1;"
                + "turn 1 7;bow;step 1 1 1;glove 0 3;turn 0 6;");
        at(x, -1, 0, 0, 4, 0);
        at(x, -1, 1, 8, 4, 2);
        at(x, 0, 0, 2, 4, 0);
        at(x, 1, 0, 2, 4, 1);
        at(x, 1, 1, 8, 4, 3);
        at(x, 2, 0, 2, 7, 1);
        at(x, 2, 1, 8, 1, 3);
        at(x, 3, 1, 8, 1, 2);
        at(x, 4, 0, 8, 1, 1);
        at(x, 4, 1, 2, 7, 2);
        at(x, 5, 1, 1, 7, 2);
        at(x, 6, 0, 8, 1, 1);
        at(x, 7, 0, 8, 1, 3);
        due("behind the last", "NSE", () -> x.where(0, 8, 0, 0));
        due("step -2", "NSE", () -> x.where(0, -2, 0, 0));
        due("who 2", "NSE", () -> x.where(0, 0, 2, 0));
        due("who -1", "NSE", () -> x.where(0, 0, -1, 0));
        due("what 3", "NSE", () -> x.where(0, 0, 0, 3));
        due("what -1", "NSE", () -> x.where(0, 0, 0, -1));
        due("no such dance", "NSE", () -> x.where(1, -1, 0, 0));
        x.years(1);
        at(x, 0, 0, 1, 4, 0);
        at(x, 2, 0, 1, 6, 1);
        at(x, 2, 1, 8, 1, 3);
        x.years(8);
        at(x, 2, 1, 8, 2, 3);
        x.years(50);
        at(x, 5, 0, 8, 4, 1);
        at(x, 5, 1, 0, 4, 2);
    }

    private static void whatCannotBe() {
        DancedPacts off = told(PAIR + "turn 0 3;step 0 6 0;step 0 1 0;bow;");
        due("off the floor", 2, () -> off.dance(0, 7));
        at(off, 1, 0, 0, 0, 3);
        due("it isn't come to", "NSE", () -> off.where(0, 2, 0, 0));
        due("nor what is behind", "NSE", () -> off.where(0, 3, 0, 0));
        DancedPacts down = told(PAIR + "turn 0 1;step 0 5 0;step 0 1 0;");
        due("off below", 2, () -> down.dance(0, 7));
        DancedPacts right = told(PAIR + "turn 1 2;step 1 0 0;step 1 1 0;");
        due("off to the right", 2, () -> right.dance(0, 7));
        DancedPacts left = told(PAIR + "turn 0 2;step 0 1 0;");
        due("off to the left", 1, () -> left.dance(0, 7));
        DancedPacts meet = told(PAIR + "step 0 9 0;step 0 1 0;step 0 1 0;");
        due("where the other one is", 2, () -> meet.dance(0, 7));
        DancedPacts through = told("floor 4;" + PAIR + "step 1 1 0;step 0 3 0;");
        due("on the way", 1, () -> through.dance(0, 7));
        DancedPacts both = told("floor 8;" + PAIR + "step 2 3 0;step 2 1 0;bow;");
        due("both to one place", 1, () -> both.dance(0, 7));
        at(both, 0, 0, 3, 4, 0);
        at(both, 0, 1, 4, 4, 2);
        DancedPacts first = told("floor 9;" + PAIR + "step 2 4 0;");
        due("the leader first, then not the other", 0, () -> first.dance(0, 7));
        due("the whole step", 8, () -> first.apart(0));
        DancedPacts behind = told("floor 4;" + PAIR + "turn 1 2;bow;step 2 1 0;step 1 1 0;");
        due("the leader leaves", 2, () -> behind.dance(0, 7));
        DancedPacts chased = told("floor 6;" + PAIR + "step 0 4 0;turn 0 2;step 2 1 0;");
        due("the leader goes first", -1, () -> chased.dance(0, 7));
        DancedPacts chasing = told("floor 8;" + PAIR + "step 1 1 0;step 0 5 0;turn 1 2;step 2 1 0;");
        due("ahead of the other one", 3, () -> chasing.dance(0, 7));
        DancedPacts stiff = told("valley 9;valley 0;dance 0 1 1;turn 0 2;step 0 3 0;");
        due("too far", 1, () -> stiff.dance(0, 7));
        stiff.years(21);
        due("none below 0", -1, () -> stiff.dance(0, 7));
    }

    private static void binds(String steps, int binding) {
        DancedPacts x = told("floor 7;" + PAIR + steps);
        due("BINDING by " + steps, binding, () -> x.dance(0, 6));
    }

    private static void facing() {
        binds("", 1);
        binds("turn 0 1;", 0);
        binds("turn 1 1;", 0);
        binds("turn 2 4;turn 2 8;", 1);
        binds("turn 2 2;", 0);
        binds("turn 2 2;bow;", 1);
        binds("bow;", 0);
        binds("turn 0 1;step 0 1 0;turn 0 3;", 0);
        binds("step 0 6 0;", 0);
        binds("turn 1 2;step 1 1 0;turn 1 2;", 0);
        String column = "turn 0 3;step 0 3 0;turn 0 1;step 0 6 0;turn 0 1;";
        binds(column, 0);
        binds(column + "turn 1 1;", 1);
        binds(column + "turn 1 3;", 0);
        binds(column + "turn 1 1;bow;", 0);
        binds(column + "turn 0 2;bow;turn 1 3;", 1);
    }

    private static void bound() {
        DancedPacts x = told(BALL);
        due("bound 0 1", 12, () -> x.bound(0, 1));
        due("bound 0 2", 6, () -> x.bound(0, 2));
        due("bound 0 0", -1, () -> x.bound(0, 0));
        due("by a glove", -1, () -> x.bound(1, 1));
        due("valley 3", "NSE", () -> x.bound(3, 0));
        due("valley -1", "NSE", () -> x.bound(-1, 0));
        due("about 8", "NSE", () -> x.bound(0, 8));
        due("about -1", "NSE", () -> x.bound(0, -1));
        DancedPacts least = told(PAIR + "valley 0;step 0 3 7;hop 1 2 7;step 2 1 7;step 0 0 6;"
                + "dance 2 0 1;step 1 1 7;step 0 2 7;");
        due("the least of all", 1, () -> least.bound(0, 7));
        due("the least of one", 2, () -> least.bound(1, 7));
        due("of the leader", 2, () -> least.bound(2, 7));
        due("N 0 is no clause", -1, () -> least.bound(0, 6));
        least.breaks(1);
        due("broken off", 2, () -> least.bound(0, 7));
        due("broken off too", -1, () -> least.bound(2, 7));
        least.again(1);
        due("danced again", 2, () -> least.bound(2, 7));
        DancedPacts gloves = told(PAIR + "valley 0;glove 2 1;step 2 1 1;step 2 1 2;glove 0 2;"
                + "dance 2 0 1;step 1 3 1;glove 0 3;glove 1 2;step 0 1 2;");
        due("gloves of both", -1, () -> gloves.bound(1, 1));
        due("of that dance alone", 3, () -> gloves.bound(0, 1));
        due("gloved behind it", -1, () -> gloves.bound(0, 2));
        due("the other one isn't", 2, () -> gloves.bound(1, 2));
        due("about other things", 1, () -> gloves.bound(2, 2));
        DancedPacts knees = told("valley 9;valley 0;dance 0 1 2;step 0 3 4;");
        knees.years(50);
        due("N whatever knees", 6, () -> knees.bound(0, 4));
    }

    private static void limit(String expr, int value) {
        DancedPacts x = told(PAIR + "turn 0 4;hop 0 5 3;limit " + expr + ";");
        int kept = Math.max(0, Math.min(99, value));
        due("limit " + expr, kept, () -> x.bound(0, 3));
    }

    private static void limits() {
        limit("n", 5);
        limit("about", 3);
        limit("time", 2);
        limit("hop", 1);
        limit("place", 1);
        limit("lead", 1);
        limit("n*time+about", 13);
        limit("1+2*3", 7);
        limit("(1+2)*3", 9);
        limit("10-3-2", 5);
        limit("99/10*10", 90);
        limit("7/2", 3);
        limit("(0-7)/2+10", 7);
        limit("7/(0-2)+10", 7);
        limit("7/0", 0);
        limit("7/0+4", 4);
        limit("0/5+1", 1);
        limit("99", 99);
        limit("100", 99);
        limit("0-1", 0);
        limit("50+(2<3)", 51);
        limit("50+(3<3)", 50);
        limit("50+(3=3)", 51);
        limit("50+(2=3)", 50);
        limit("50+((0-1)<0)", 51);
        limit("not 5", 0);
        limit("not not 5", 1);
        limit("not 0", 1);
        limit("not 0+5", 0);
        limit("not 3<2", 1);
        limit("5 and 3", 1);
        limit("5 and 0", 0);
        limit("0 or 7", 1);
        limit("0 or 0", 0);
        limit("1 or 0 and 0", 1);
        limit("(1 or 0) and 0", 0);
        limit("not 1 or 1", 1);
        limit("not 0 and 0", 0);
        limit("1<2 or 1", 1);
        limit("3-1<2+1", 1);
        limit("4=2*2 and 1", 1);
        limit("5", 5);
        limit("9999*9999*9999", 9999 * 9999 * 9999);
        limit("9999*9999*50", 9999 * 9999 * 50);
        limit("8192*8192*32/(0-1)/8192/8192+40", 8);
        limit("8192*8192*32-1-8192*8192*31-8192*8191-8190", 1);
        limit("(((((n)))))", 5);
        limit("1+(1+(1+(1+(1+1*1))))", 6);
        limit("0 or 0 and 1<1+1*(0 or 0 and 1<1+1*(0 or 0 and 1<1+1*(0 or 0 and 1<1+1*(5))))", 0);
        DancedPacts x = told(PAIR + "step 2 4 1;hop 2 1 2;limit 10+hop*20+lead*3+place*7;");
        due("leads", 13, () -> x.bound(0, 1));
        due("follows", 10, () -> x.bound(1, 1));
        due("leads by a hop", 40, () -> x.bound(0, 2));
        due("follows by a hop", 37, () -> x.bound(1, 2));
    }

    private static void clauses() {
        DancedPacts x = told(BALL);
        int[][] rows = {{2, 0, 0}, {0, 1, 1}, {0, 0, 0}};
        for (int valley = 0; valley < 3; valley++) {
            for (int what = 0; what < 3; what++) {
                int v = valley;
                int w = what;
                due("clauses " + v + " " + w, rows[v][w], () -> x.clauses(v, w));
            }
        }
        due("what 3", "NSE", () -> x.clauses(0, 3));
        due("what -1", "NSE", () -> x.clauses(0, -1));
        due("valley 3", "NSE", () -> x.clauses(3, 0));
        DancedPacts y = told(PAIR + "hop 0 1 1;hop 1 1 1;hop 2 1 1;hop 0 0 1;step 1 1 2;glove 2 3;"
                + "glove 0 1;hop 0 2 5;valley 0;dance 2 0 1;hop 0 1 1;glove 1 7;");
        due("bound by", 1, () -> y.clauses(0, 0));
        due("bound by too", 3, () -> y.clauses(1, 0));
        due("hidden from the leader, and the follower of another", 2, () -> y.clauses(0, 1));
        due("hidden, a glove or not", 2, () -> y.clauses(1, 1));
        due("gloves", 3, () -> y.clauses(0, 2));
        due("a glove of both", 1, () -> y.clauses(1, 2));
        y.breaks(0);
        due("no gloves by a broken one", 1, () -> y.clauses(0, 2));
        due("nor hidden", 1, () -> y.clauses(0, 1));
        due("nor bound", 0, () -> y.clauses(1, 0));
    }

    private static void done() {
        DancedPacts x = told(BALL);
        due("nothing", 0, () -> x.done(0, 2, 0));
        due("so much", 6, () -> x.act(0, 2, 6));
        due("not yet", 0, () -> x.done(0, 2, 1));
        due("nobody", 0, () -> x.count(5));
        due("one more", 7, () -> x.act(0, 2, 1));
        due("stamped", 1, () -> x.done(0, 2, 1));
        x.act(0, 1, 13);
        due("one valley, of two things", 1, () -> x.count(5));
        due("bound to nothing", 99, () -> x.act(1, 1, 99));
        due("no stamp", 0, () -> x.done(1, 1, 1));
        due("of another", 0, () -> x.done(0, 3, 0));
        due("what 2", "NSE", () -> x.done(0, 2, 2));
        due("what -1", "NSE", () -> x.done(0, 2, -1));
        due("about 8", "NSE", () -> x.done(0, 8, 0));
        due("about -1", "NSE", () -> x.done(0, -1, 0));
        due("valley 3", "NSE", () -> x.done(3, 0, 0));
        DancedPacts y = told(PAIR + "step 2 1 0;limit 0;");
        y.act(0, 0, 1);
        y.act(1, 0, 1);
        due("two stamped", 2, () -> y.count(5));
    }

    private static void years() {
        DancedPacts x = new DancedPacts();
        due("0", -1, () -> x.years(0));
        due("-5", -1, () -> x.years(-5));
        due("51", -1, () -> x.years(51));
        due("most int", -1, () -> x.years(Integer.MAX_VALUE));
        due("refused", 4, () -> x.count(10));
        due("1", 1, () -> x.years(1));
        due("50", 51, () -> x.years(50));
        for (int i = 0; i < 18; i++) {
            x.years(50);
        }
        due("951", 951, () -> x.count(3));
        due("1001 is too late", -1, () -> x.years(50));
        due("999", 999, () -> x.years(48));
        due("1000 is too late", -1, () -> x.years(1));
        due("999 still", 999, () -> x.count(3));
        due("refused", 6, () -> x.count(10));
    }

    private static void again() {
        DancedPacts x = told(BALL);
        x.years(12);
        due("of 12", 12, () -> x.again(1));
        due("of 0", 0, () -> x.again(1));
        due("the others", 12, () -> x.dance(0, 4));
        due("two acts more", 3, () -> x.count(6));
        due("dance 3", "NSE", () -> x.again(3));
        due("dance -1", "NSE", () -> x.again(-1));
        due("no act", 3, () -> x.count(6));
    }

    private static void breaks() {
        DancedPacts x = told(BALL);
        due("binding", 1, () -> x.dance(0, 6));
        due("broken", true, () -> x.breaks(0));
        due("again", false, () -> x.breaks(0));
        due("refused", 1, () -> x.count(10));
        due("one act", 1, () -> x.count(6));
        due("not binding", 0, () -> x.dance(0, 6));
        due("years heal nothing", 5, () -> x.years(5));
        due("still not", 0, () -> x.count(4));
        due("danced again", 5, () -> x.again(0));
        due("not broken", 0, () -> x.dance(0, 5));
        due("binding again", 1, () -> x.count(4));
        due("dance 3", "NSE", () -> x.breaks(3));
        due("dance -1", "NSE", () -> x.breaks(-1));
    }

    private static void stumble() {
        DancedPacts x = told(BALL);
        due("step", 4, () -> x.stumble(0, 0, 5));
        due("it is so", 5, () -> x.step(0, 0, 2));
        due("it can't be", 3, () -> x.dance(0, 7));
        due("turn", 2, () -> x.stumble(0, 1, 9));
        due("hop", 2, () -> x.stumble(0, 3, 0));
        due("as it is", 0, () -> x.stumble(0, 3, 0));
        due("four acts", 4, () -> x.count(6));
        due("glove", -1, () -> x.stumble(0, 4, 1));
        due("bow", -1, () -> x.stumble(2, 1, 1));
        due("10", -1, () -> x.stumble(0, 0, 10));
        due("-1", -1, () -> x.stumble(0, 0, -1));
        due("refused", 4, () -> x.count(10));
        due("no step, ahead of N", "NSE", () -> x.stumble(0, 5, 10));
        due("step -1", "NSE", () -> x.stumble(0, -1, 1));
        due("no dance", "NSE", () -> x.stumble(3, 0, 10));
        due("refused still", 4, () -> x.count(10));
    }

    private static void act() {
        DancedPacts x = told(BALL);
        due("0", -1, () -> x.act(0, 0, 0));
        due("100", -1, () -> x.act(0, 0, 100));
        due("refused", 2, () -> x.count(10));
        due("99", 99, () -> x.act(2, 7, 99));
        for (int i = 0; i < 99; i++) {
            x.act(2, 7, 99);
        }
        due("9900", 9900, () -> x.done(2, 7, 0));
        due("9999", 9999, () -> x.act(2, 7, 99));
        due("10000 is too much", -1, () -> x.act(2, 7, 1));
        due("9999 still", 9999, () -> x.done(2, 7, 0));
        due("refused", 3, () -> x.count(10));
        due("forty acts", 40, () -> x.count(6));
        due("valley 3", "NSE", () -> x.act(3, 0, 0));
        due("valley -1", "NSE", () -> x.act(-1, 0, 1));
        due("about 8", "NSE", () -> x.act(0, 8, 100));
        due("about -1", "NSE", () -> x.act(0, -1, 1));
    }

    private static void undo() {
        DancedPacts x = told(BALL);
        x.years(9);
        x.breaks(0);
        x.again(0);
        x.stumble(0, 0, 7);
        x.stumble(0, 0, 8);
        x.act(1, 3, 40);
        x.act(1, 3, 50);
        due("undo act", 6, x::undo);
        due("40", 40, () -> x.done(1, 3, 0));
        due("undo act", 5, x::undo);
        due("0", 0, () -> x.done(1, 3, 0));
        due("undo stumble", 4, x::undo);
        due("7", 7, () -> x.step(0, 0, 2));
        due("undo stumble", 3, x::undo);
        due("4", 4, () -> x.step(0, 0, 2));
        due("undo again", 2, x::undo);
        due("broken off", 1, () -> x.dance(0, 5));
        due("9 years", 9, () -> x.dance(0, 4));
        due("undo breaks", 1, x::undo);
        due("not broken", 0, () -> x.dance(0, 5));
        due("undo years", 0, x::undo);
        due("year 0", 0, () -> x.count(3));
        due("none", -1, x::undo);
        due("not refused", 0, () -> x.count(10));
        for (int i = 0; i < 45; i++) {
            x.act(0, 0, i + 1);
        }
        due("forty", 40, () -> x.count(6));
        for (int i = 39; i >= 0; i--) {
            int left = i;
            due("undo", left, x::undo);
        }
        due("the first five stay", 15, () -> x.done(0, 0, 0));
        due("none left", -1, x::undo);
    }

    private static void mends(DancedPacts x, int dance, int many, int first) {
        due("mend " + dance + " by", many, () -> x.mend(dance, 0));
        due("mend " + dance + " first", first, () -> x.mend(dance, 1));
    }

    private static void mend() {
        DancedPacts x = told(BALL);
        mends(x, 0, 0, -1);
        mends(x, 1, 1, 10);
        mends(x, 2, -1, -1);
        x.breaks(0);
        mends(x, 0, 0, -1);
        x.stumble(0, 0, 5);
        mends(x, 0, 1, 0);
        due("nothing is changed", 5, () -> x.step(0, 0, 2));
        due("what 2", "NSE", () -> x.mend(0, 2));
        due("what -1", "NSE", () -> x.mend(0, -1));
        due("dance 3", "NSE", () -> x.mend(3, 0));
        DancedPacts two = told(PAIR + "bow;turn 0 1;glove 0 0;turn 1 1;");
        mends(two, 0, 2, 1232);
        due("nothing is changed", 1, () -> two.step(0, 1, 2));
        DancedPacts far = told(PAIR + "step 0 9 1;step 0 9 1;step 1 9 1;");
        mends(far, 0, 2, 10);
        DancedPacts stop = told(PAIR + "step 0 9 1;step 0 9 1;step 0 9 1;step 0 9 1;");
        mends(stop, 0, -1, -1);
        DancedPacts none = told(PAIR + "bow;");
        mends(none, 0, -1, -1);
        DancedPacts same = told(PAIR + "turn 0 2;bow;turn 1 1;");
        mends(same, 0, 1, 22);
        DancedPacts last = told(PAIR + times("bow;", 8) + "turn 0 1;turn 1 1;");
        mends(last, 0, 2, 8090);
        DancedPacts later = told(PAIR + "turn 0 1;turn 1 1;turn 0 2;turn 1 2;");
        mends(later, 0, 2, 212);
        DancedPacts most = told("floor 19;" + PAIR + "turn 0 3;step 0 1 0;turn 0 1;step 0 8 0;step 0 8 0;"
                + "turn 0 1;turn 1 1;");
        mends(most, 0, 2, 3949);
        DancedPacts lame = told("valley 9;valley 9;floor 4;dance 0 1 1;turn 0 1;step 0 1 0;turn 0 3;");
        mends(lame, 0, 1, 10);
        lame.years(1);
        mends(lame, 0, 0, -1);
    }

    private static void costly() {
        DancedPacts x = told(BALL);
        due("more", 5, () -> x.costly(0));
        due("not binding", -1, () -> x.costly(1));
        due("dance 3", "NSE", () -> x.costly(3));
        due("dance -1", "NSE", () -> x.costly(-1));
        x.breaks(0);
        due("broken off", -1, () -> x.costly(0));
        DancedPacts less = told(PAIR + "step 0 1 0;glove 0 1;turn 0 4;");
        due("less ahead of more", 23, () -> less.costly(0));
        DancedPacts none = told(PAIR + "step 0 1 0;bow;bow;");
        due("none", -1, () -> none.costly(0));
        DancedPacts zero = told(PAIR + "turn 0 1;turn 0 3;");
        due("less is 0", 0, () -> zero.costly(0));
        DancedPacts edge = told(PAIR + "step 0 0 0;turn 0 0;");
        due("0 has no less", 11, () -> edge.costly(0));
        DancedPacts top = told(PAIR + "step 0 9 0;step 1 1 1;");
        due("9 has no more", 12, () -> top.costly(0));
    }

    private static void later() {
        DancedPacts x = told(BALL);
        due("now", 1, () -> x.later(0));
        due("in 10", 1, () -> x.later(10));
        due("in 99", 1, () -> x.later(99));
        due("100", "IAE", () -> x.later(100));
        due("-1", "IAE", () -> x.later(-1));
        DancedPacts y = told(PAIR + "step 0 9 0;step 0 2 0;valley 5;dance 2 0 1;turn 0 3;step 0 7 0;"
                + "step 0 1 0;turn 0 1;");
        due("none now", 0, () -> y.later(0));
        due("none in 4", 0, () -> y.later(4));
        due("none in 5", 0, () -> y.later(9));
        due("one in 10", 1, () -> y.later(10));
        due("year stays", 0, () -> y.count(3));
        y.years(10);
        due("one now", 1, () -> y.later(0));
        y.breaks(0);
        due("broken off", 0, () -> y.later(5));
        DancedPacts many = told(PAIR + "valley 0;dance 0 2 1;dance 1 2 1;turn 0 1;step 0 9 0;turn 0 3;");
        due("two", 2, () -> many.later(0));
        due("three", 3, () -> many.later(99));
    }

    private static void inTime() {
        DancedPacts x = told(BALL);
        due("as it is", 0, () -> x.inTime(0, 3));
        due("a reel", 2, () -> x.inTime(0, 1));
        due("a slow one", 2, () -> x.inTime(0, 4));
        due("not binding", 0, () -> x.inTime(1, 2));
        due("time 5", "IAE", () -> x.inTime(0, 5));
        due("time 0", "IAE", () -> x.inTime(0, 0));
        due("dance ahead of time", "NSE", () -> x.inTime(3, 5));
        due("dance -1", "NSE", () -> x.inTime(-1, 1));
        x.breaks(0);
        due("broken off", 0, () -> x.inTime(0, 1));
        DancedPacts y = told(PAIR + "step 2 1 1;step 1 1 2;step 0 1 3;glove 0 3;step 0 1 4;step 2 0 5;"
                + "limit lead*time+5;");
        due("for some whom they bind", 2, () -> y.inTime(0, 4));
        DancedPacts z = told(PAIR + "step 2 1 1;limit time/2;");
        due("3 is like 2", 0, () -> z.inTime(0, 3));
        due("4 is not", 1, () -> z.inTime(0, 4));
    }

    private static void apart() {
        DancedPacts x = told(BALL);
        due("1", 1, () -> x.apart(0));
        due("8", 8, () -> x.apart(1));
        due("4", 4, () -> x.apart(2));
        due("dance 3", "NSE", () -> x.apart(3));
        DancedPacts y = told(PAIR + "turn 0 1;step 0 3 0;step 0 9 0;step 1 1 0;");
        due("as far as it can be, x and y", 14, () -> y.apart(0));
    }

    private static void against() {
        String three = TWO + "valley 0;valley 0;";
        DancedPacts x = told(three + "dance 0 1 1;step 0 3 2;dance 2 0 1;step 1 2 2;step 1 3 2;"
                + "dance 0 3 1;step 0 2 2;step 0 1 4;dance 1 3 2;step 0 1 2;");
        due("couples", 2, () -> x.against(0));
        due("the first breaks", 1, () -> x.against(1));
        due("what 2", "NSE", () -> x.against(2));
        due("what -1", "NSE", () -> x.against(-1));
        x.stumble(2, 0, 1);
        due("all three", 3, () -> x.against(0));
        due("two breaks, the least", 3, () -> x.against(1));
        x.breaks(0);
        due("one couple", 1, () -> x.against(0));
        due("the lesser of it", 2, () -> x.against(1));
        x.breaks(2);
        due("no couple", 0, () -> x.against(0));
        due("no breaks", 0, () -> x.against(1));
        DancedPacts y = told(three + "dance 0 1 1;step 2 3 2;dance 1 2 1;step 0 2 2;dance 0 2 1;"
                + "step 2 1 3;glove 0 2;step 0 1 2;");
        due("of one valley alone", 1, () -> y.against(0));
        DancedPacts z = told(three + "dance 0 1 1;step 0 1 0;step 0 1 1;dance 0 2 1;step 0 2 0;step 0 2 1;");
        due("a couple counts once", 1, () -> z.against(0));
    }

    private static void help() {
        DancedPacts x = told(times("valley 0;", 6) + "dance 0 1 3;dance 2 1 3;dance 3 2 2;dance 3 4 3;"
                + "dance 4 5 3;turn 0 1;dance 0 2 3;");
        due("0", 6, () -> x.help(0));
        due("1", 5, () -> x.help(1));
        due("2", 3, () -> x.help(2));
        due("3", 16, () -> x.help(3));
        due("4", 8, () -> x.help(4));
        due("5", 0, () -> x.help(5));
        due("6", "NSE", () -> x.help(6));
        due("-1", "NSE", () -> x.help(-1));
        x.stumble(4, 0, 0);
        due("5 then", 24, () -> x.help(5));
        x.breaks(1);
        due("the other way", 6, () -> x.help(0));
        x.breaks(5);
        due("broken off", 2, () -> x.help(0));
        DancedPacts row = told(times("valley 0;", 6) + "dance 4 5 3;dance 3 4 3;dance 2 3 3;dance 1 2 3;"
                + "dance 0 1 3;");
        due("a long row", 62, () -> row.help(0));
        due("from the other end", 31, () -> row.help(5));
    }

    private static void dancing(String dances, int nights, int most, int which) {
        DancedPacts x = told(times("valley 0;", 6) + dances);
        due("evenings of " + dances, nights, () -> x.evenings(0));
        due("at once of " + dances, most, () -> x.evenings(1));
        due("which of " + dances, which, () -> x.evenings(2));
    }

    private static void evenings() {
        dancing("", 0, 0, 0);
        dancing("dance 0 1 1;", 1, 1, 1);
        dancing("dance 0 1 1;turn 0 1;", 1, 1, 1);
        dancing("dance 0 1 1;dance 2 3 1;dance 4 5 1;", 1, 3, 7);
        dancing("dance 0 1 1;dance 1 2 1;dance 2 0 1;", 3, 1, 1);
        dancing("dance 0 1 1;dance 1 2 1;dance 2 3 1;dance 3 0 1;", 2, 2, 5);
        dancing("dance 0 1 1;dance 0 2 1;dance 0 3 1;dance 0 4 1;dance 0 5 1;", 5, 1, 1);
        dancing("dance 0 1 1;dance 1 2 1;dance 2 3 1;dance 3 4 1;dance 4 0 1;", 3, 2, 5);
        dancing("dance 1 2 1;dance 0 1 1;dance 2 3 1;dance 4 5 1;", 2, 3, 14);
        dancing("dance 0 1 1;dance 0 2 1;dance 0 3 1;dance 1 2 1;dance 1 3 1;dance 2 3 1;", 3, 2, 12);
        dancing("dance 0 1 1;dance 0 2 1;dance 0 3 1;dance 0 4 1;dance 0 5 1;dance 1 2 1;dance 3 4 1;"
                + "dance 1 3 1;", 5, 3, 112);
        DancedPacts x = told(BALL);
        due("what 3", "NSE", () -> x.evenings(3));
        due("what -1", "NSE", () -> x.evenings(-1));
    }

    private static void see() {
        DancedPacts x = told(BALL);
        due("one", 1, () -> x.see(0, 0, 0, 4, 6));
        due("the same again", 2, () -> x.see(0, 0, 0, 4, 6));
        due("count", 2, () -> x.count(7));
        due("who 2", -1, () -> x.see(0, 0, 2, 4, 6));
        due("who -1", -1, () -> x.see(0, 0, -1, 4, 6));
        due("x 12", -1, () -> x.see(0, 0, 0, 12, 6));
        due("x -1", -1, () -> x.see(0, 0, 0, -1, 6));
        due("y 12", -1, () -> x.see(0, 0, 0, 4, 12));
        due("y -1", -1, () -> x.see(0, 0, 0, 4, -1));
        due("refused", 6, () -> x.count(11));
        due("no dance, ahead", "NSE", () -> x.see(3, 0, 2, 4, 6));
        due("no step, ahead", "NSE", () -> x.see(0, 5, 2, 4, 6));
        due("step -1", "NSE", () -> x.see(0, -1, 0, 4, 6));
        due("edges", 3, () -> x.see(2, 2, 1, 11, 0));
        due("edges", 4, () -> x.see(1, 1, 1, 0, 11));
        for (int i = 5; i <= 8; i++) {
            int many = i;
            due("see " + i, many, () -> x.see(1, 0, 1, 0, 0));
        }
        due("there are 8", -1, () -> x.see(1, 0, 1, 0, 0));
        due("refused", 7, () -> x.count(11));
        x.forget();
        due("forgotten", 0, () -> x.count(7));
        due("not what was refused", 7, () -> x.count(11));
        due("one again", 1, () -> x.see(1, 0, 1, 0, 0));
    }

    private static void limps(DancedPacts x, int dance, int many, int first, int without) {
        due("limp how many", many, () -> x.limp(dance, 0));
        due("limp first", first, () -> x.limp(dance, 1));
        due("limp without", without, () -> x.limp(dance, 2));
    }

    private static void limp() {
        DancedPacts x = told(BALL);
        limps(x, 0, 36, 0, 1);
        limps(x, 1, 18, 0, 1);
        x.see(0, 3, 0, 5, 6);
        limps(x, 0, 2, 3, 0);
        limps(x, 1, 18, 0, 1);
        x.see(0, 0, 1, 7, 6);
        limps(x, 0, 1, 31, 0);
        x.see(0, 0, 1, 8, 6);
        limps(x, 0, 0, -1, 0);
        due("what 3", "NSE", () -> x.limp(0, 3));
        due("what -1", "NSE", () -> x.limp(0, -1));
        due("dance 3", "NSE", () -> x.limp(3, 0));
        due("nothing is changed", 4, () -> x.step(0, 0, 2));
        x.forget();
        limps(x, 0, 36, 0, 1);
        DancedPacts stop = told(PAIR + "step 0 9 0;step 0 9 0;turn 0 1;");
        stop.see(0, 2, 1, 11, 6);
        due("it isn't come to", 0, () -> stop.limp(0, 2));
        // Ahead of it 0 and 1 of the first STEP, behind it 0 and 1 of the second.
        limps(stop, 0, 4, 0, 0);
        stop.see(0, 0, 0, 1, 6);
        limps(stop, 0, 1, 1, 0);
        DancedPacts none = told(PAIR + "bow;glove 0 1;");
        limps(none, 0, 0, -1, 1);
        none.see(0, 0, 0, 11, 6);
        limps(none, 0, 0, -1, 1);
        none.see(0, 1, 0, 10, 6);
        limps(none, 0, 0, -1, 0);
    }

    private static void game() {
        DancedPacts x = told(BALL);
        due("rests", 1, () -> x.game(0, 1, 2, 0));
        due("first", 69, () -> x.game(0, 1, 2, 1));
        due("the other way", 96, () -> x.game(1, 0, 2, 1));
        due("both bound to nothing", 99, () -> x.game(2, 1, 2, 1));
        due("bound to more", 99, () -> x.game(0, 1, 1, 1));
        x.act(0, 2, 3);
        due("3 are left", 39, () -> x.game(0, 1, 2, 1));
        x.act(0, 2, 1);
        due("2 are too few", 99, () -> x.game(0, 1, 2, 1));
        x.act(0, 2, 9);
        due("stamped already", 99, () -> x.game(0, 1, 2, 1));
        due("nothing is done", 13, () -> x.done(0, 2, 0));
        due("one", "IAE", () -> x.game(1, 1, 2, 0));
        due("what ahead of one", "NSE", () -> x.game(1, 1, 2, 2));
        due("about ahead of one", "NSE", () -> x.game(1, 1, 8, 0));
        due("valleys ahead of one", "NSE", () -> x.game(3, 3, 0, 0));
        due("other 3", "NSE", () -> x.game(0, 3, 0, 0));
        due("one -1", "NSE", () -> x.game(-1, 0, 0, 0));
        due("about -1", "NSE", () -> x.game(0, 1, -1, 0));
        due("what -1", "NSE", () -> x.game(0, 1, 0, -1));
        DancedPacts lame = told("valley 9;valley 0;floor 4;dance 0 1 1;turn 0 3;step 0 2 0;turn 0 1;"
                + "step 0 3 5;turn 0 1;turn 1 1;");
        due("bound now", 39, () -> lame.game(0, 1, 5, 1));
        lame.years(1);
        due("not a year later", 99, () -> lame.game(0, 1, 5, 1));
    }

    private static void century() {
        DancedPacts x = told(BALL);
        due("what 3", "NSE", () -> x.century(1, 41, 3));
        due("what -1", "NSE", () -> x.century(1, 1, -1));
        due("n 41", "IAE", () -> x.century(1, 41, 0));
        due("n -1", "IAE", () -> x.century(1, -1, 0));
        due("no years, as now", 1, () -> x.century(9, 0, 1));
        DancedPacts y = told(PAIR + "valley 0;dance 0 2 1;");
        // Told by hand: the rows of draws of each seed, by the document's own rule.
        for (int seed = -40; seed < 40; seed++) {
            int s = seed;
            int[] want = centuryByHand(seed, 6);
            for (int what = 0; what < 3; what++) {
                int w = what;
                due("century " + s + " " + w, want[w], () -> y.century(s, 6, w));
            }
        }
        due("nothing of it happens", 0, () -> y.count(3));
        due("no dance is broken off", 3, () -> y.count(4));
        DancedPacts z = told(PAIR + "turn 0 1;step 0 1 0;turn 0 3;");
        z.years(8);
        due("years lame it: a step of 1 is none in year 10", 1, () -> z.century(firstOf(1, 2), 2, 0));
        due("fewest", 0, () -> z.century(firstOf(1, 2), 2, 1));
        due("all in one of two", 1, () -> z.century(firstOf(1, 2), 2, 2));
    }

    /** A seed by which, of one DANCE, so many YEARS draw nothing (2). */
    private static int firstOf(int dances, int many) {
        for (int seed = 0; seed < 100000; seed++) {
            int s = seed;
            boolean nothing = true;
            for (int i = 0; i < many; i++) {
                s = s * 1103515245 + 12345;
                s = s * 1103515245 + 12345;
                nothing &= (s >> 16 & 0x7fff) % 3 == 2;
            }
            if (nothing) {
                return seed;
            }
        }
        return 0;
    }

    /** Two DANCES that bind unless they are broken off. */
    private static int[] centuryByHand(int seed, int n) {
        boolean[] broken = new boolean[2];
        int s = seed;
        int fewest = 2;
        int all = 0;
        int last = 2;
        for (int i = 0; i < n; i++) {
            s = s * 1103515245 + 12345;
            int dance = (s >> 16 & 0x7fff) % 2;
            s = s * 1103515245 + 12345;
            int what = (s >> 16 & 0x7fff) % 3;
            broken[dance] = what == 1 || what == 2 && broken[dance];
            last = (broken[0] ? 0 : 1) + (broken[1] ? 0 : 1);
            fewest = Math.min(fewest, last);
            all += last == 2 ? 1 : 0;
        }
        return new int[] {last, fewest, all};
    }

    private static void image() {
        DancedPacts x = told(BALL);
        due("none", false, x::restore);
        x.years(4);
        x.again(1);
        x.breaks(0);
        x.stumble(0, 0, 2);
        x.act(0, 5, 20);
        x.see(0, 0, 0, 1, 1);
        x.years(0);
        x.see(0, 0, 2, 1, 1);
        x.image();
        x.undo();
        x.undo();
        x.undo();
        x.years(6);
        x.act(1, 1, 1);
        x.forget();
        x.years(0);
        x.see(0, 0, 2, 1, 1);
        tell(x, "x");
        feedText(x, "valley 0;");
        due("restore", true, x::restore);
        due("year", 4, () -> x.count(3));
        due("danced", 0, () -> x.dance(1, 4));
        due("broken", 1, () -> x.dance(0, 5));
        due("n", 2, () -> x.step(0, 0, 2));
        due("done", 20, () -> x.done(0, 5, 0));
        due("done by another", 0, () -> x.done(1, 1, 0));
        due("acts", 5, () -> x.count(6));
        due("seen", 1, () -> x.count(7));
        due("status 0", 0, () -> x.count(9));
        due("status 1", 1, () -> x.count(10));
        due("status 2", 1, () -> x.count(11));
        due("not the tape", 20, () -> x.count(8));
        due("not the fault", 0, x::fault);
        due("seen as it was", 0, () -> x.limp(0, 2));
        due("undo act", 4, x::undo);
        due("undo stumble", 3, x::undo);
        due("4 again", 4, () -> x.step(0, 0, 2));
        due("restore again", true, x::restore);
        due("2 again", 2, () -> x.step(0, 0, 2));
        x.years(1);
        x.image();
        x.years(1);
        due("another image", true, x::restore);
        due("its year", 5, () -> x.count(3));
        fullImage();
    }

    private static void fullImage() {
        DancedPacts x = told(times("valley 0;", 6) + "dance 0 1 1;dance 0 2 1;dance 0 3 1;dance 0 4 1;"
                + "dance 0 5 1;dance 1 2 1;dance 1 3 1;step 0 0 1;dance 1 4 1;" + times("step 0 0 7;", 10));
        for (int i = 0; i < 40; i++) {
            x.act(5, 7, i + 1);
        }
        for (int i = 0; i < 8; i++) {
            x.see(7, 9, 1, 11, 6);
        }
        x.image();
        for (int i = 0; i < 40; i++) {
            x.stumble(7, 9, 0);
        }
        x.years(1);
        x.breaks(7);
        x.forget();
        for (int i = 0; i < 8; i++) {
            x.see(6, 0, 0, 1, 1);
        }
        x.forget();
        due("all of it", true, x::restore);
        due("eight seen", 8, () -> x.count(7));
        due("as they were", 1, () -> x.limp(7, 2));
        due("not of another", 1, () -> x.limp(6, 2));
        due("done", 820, () -> x.done(5, 7, 0));
        due("undone", 39, x::undo);
        due("by forty", 780, () -> x.done(5, 7, 0));
        due("not broken", 0, () -> x.dance(7, 5));
    }
}
