/** The boundary cases of promises 5 to 12: where envoys come to, what is binding, bound, done. */
public final class BoundariesOfDancesTest {
    private static final String EIGHT = Boundary.SIX + "dance 0 1 1;dance 0 2 1;dance 0 3 1;dance 0 4 1;"
            + "dance 0 5 1;dance 1 2 1;dance 1 3 1;dance 1 4 1;";
    private static final int RIGHT = 0;
    private static final int DOWN = 1;
    private static final int LEFT = 2;
    private static final int UP = 3;

    public static void main(String[] args) throws ReflectiveOperationException {
        Boundary.runAll(BoundariesOfDancesTest.class);
    }

    /** On a FLOOR of 7 the LEADER begins at 0, 3, the FOLLOWER at 6, 3. */
    private static DancedPacts on7(String steps) {
        return Boundary.told("floor 7;" + Boundary.PAIR + steps);
    }

    private static void at(DancedPacts x, int i, int who, int px, int py, int side) {
        Boundary.due("x of " + who + " behind " + i, px, () -> x.where(0, i, who, 0));
        Boundary.due("y of " + who + " behind " + i, py, () -> x.where(0, i, who, 1));
        Boundary.due("side of " + who + " behind " + i, side, () -> x.where(0, i, who, 2));
    }

    private static void stopsAt(String steps, int i) {
        DancedPacts x = on7(steps);
        Boundary.due("the first that can't be of " + steps, i, () -> x.dance(0, 7));
    }

    private static void binds(String steps, boolean binding) {
        DancedPacts x = on7(steps);
        Boundary.due("BINDING by " + steps, binding ? 1 : 0, () -> x.dance(0, 6));
        Boundary.due("bits by " + steps, binding ? 1 : 0, () -> x.count(4));
    }

    // Promise 5: count.

    static void promise05_anotherWhat() {
        Boundary.leavesAll("count(-1)", Boundary.NSE, -1, x -> x.count(-1));
        Boundary.leavesAll("count(12)", Boundary.NSE, -1, x -> x.count(12));
        Boundary.leavesAll("count of the least int", Boundary.NSE, -1, x -> x.count(Boundary.MIN));
        Boundary.leavesAll("count of the most int", Boundary.NSE, -1, x -> x.count(Boundary.MAX));
    }

    static void promise05_eachWhat() {
        DancedPacts x = Boundary.living();
        int[] due = {3, 2, 9, 12, 2, 0, 6, 2, 20, 1, 1, 1};
        for (int what = 0; what < due.length; what++) {
            int w = what;
            Boundary.due("count " + w, due[w], () -> x.count(w));
        }
    }

    static void promise05_askingChangesNothing() {
        for (int what = 0; what <= 11; what++) {
            int w = what;
            Object due = Boundary.living().count(w);
            Boundary.leavesAll("count " + w, due, -1, x -> x.count(w));
        }
    }

    static void promise05_bitsOfNoneAndOfAllDances() {
        DancedPacts none = Boundary.told(Boundary.TWO);
        Boundary.due("none", 0, () -> none.count(4));
        DancedPacts x = Boundary.told(EIGHT);
        Boundary.due("all eight", 255, () -> x.count(4));
        x.breaks(7);
        Boundary.due("without the last", 127, () -> x.count(4));
        x.breaks(0);
        Boundary.due("without the first", 126, () -> x.count(4));
    }

    static void promise05_noneAndAllValleysHaveStamped() {
        DancedPacts x = Boundary.told(Boundary.SIX + "limit 1;dance 0 1 1;step 2 1 0;dance 2 3 1;step 2 1 7;"
                + "dance 4 5 1;step 2 1 3;");
        int[] about = {0, 0, 7, 7, 3, 3};
        for (int valley = 0; valley < 6; valley++) {
            x.act(valley, about[valley], 1);
            Boundary.due("as much as bound", 0, () -> x.count(5));
        }
        for (int valley = 0; valley < 6; valley++) {
            int many = valley + 1;
            x.act(valley, about[valley], 1);
            Boundary.due("more than bound", many, () -> x.count(5));
        }
    }

    static void promise05_aValleyThatStampedTwiceCountsOnce() {
        DancedPacts x = Boundary.told(Boundary.PAIR + "step 0 1 0;step 0 1 7;");
        x.act(0, 0, 3);
        x.act(0, 7, 3);
        Boundary.due("stamped", 1, () -> x.count(5));
    }

    static void promise05_theYearAheadOfWorseKnees() {
        Boundary.nowAndThen("binding", 3, 2, x -> x.count(4));
        DancedPacts x = Boundary.told(Boundary.LAME);
        x.act(0, 3, 4);
        Boundary.due("stamped now", 1, () -> x.count(5));
        x.years(1);
        Boundary.due("stamped a year later", 0, () -> x.count(5));
    }

    static void promise05_allThatThereCanBe() {
        DancedPacts x = Boundary.told(Boundary.FULL);
        Boundary.due("binding", 255, () -> x.count(4));
        Boundary.due("stamped", 0, () -> x.count(5));
        for (int valley = 0; valley < 6; valley++) {
            x.act(valley, 7, 99);
        }
        Boundary.due("stamped, bound to nothing", 0, () -> x.count(5));
    }

    // Promise 6: knees.

    static void promise06_noSuchValley() {
        DancedPacts x = Boundary.told("valley 9;valley 1;valley 2;valley 3;valley 4;valley 0;");
        Boundary.due("the first", 9, () -> x.knees(0));
        Boundary.due("the last", 0, () -> x.knees(5));
        Boundary.due("one more", Boundary.NSE, () -> x.knees(6));
        Boundary.due("-1", Boundary.NSE, () -> x.knees(-1));
        Boundary.due("the least int", Boundary.NSE, () -> x.knees(Boundary.MIN));
        Boundary.due("the most int", Boundary.NSE, () -> x.knees(Boundary.MAX));
        DancedPacts y = Boundary.told("valley 7;");
        Boundary.due("the only one", 7, () -> y.knees(0));
        Boundary.due("not told", Boundary.NSE, () -> y.knees(1));
    }

    // Promise 7: dance.

    static void promise07_noSuchDance() {
        DancedPacts x = Boundary.told(EIGHT);
        for (int what = 0; what < 8; what++) {
            int w = what;
            Boundary.due("dance -1", Boundary.NSE, () -> x.dance(-1, w));
            Boundary.due("dance 8", Boundary.NSE, () -> x.dance(8, w));
        }
        Boundary.due("the first", 0, () -> x.dance(0, 0));
        Boundary.due("the last", 4, () -> x.dance(7, 1));
        Boundary.due("the most int", Boundary.NSE, () -> x.dance(Boundary.MAX, 0));
        Boundary.due("the least int", Boundary.NSE, () -> x.dance(Boundary.MIN, 0));
        DancedPacts y = Boundary.told(Boundary.PAIR);
        Boundary.due("the only one", 2, () -> y.dance(0, 2));
        Boundary.due("not told", Boundary.NSE, () -> y.dance(1, 2));
    }

    static void promise07_anotherWhat() {
        DancedPacts x = Boundary.told(Boundary.PAIR);
        int[] due = {0, 1, 2, 0, 0, 0, 1, -1};
        for (int what = 0; what < 8; what++) {
            int w = what;
            Boundary.due("what " + w, due[w], () -> x.dance(0, w));
        }
        Boundary.due("what -1", Boundary.NSE, () -> x.dance(0, -1));
        Boundary.due("what 8", Boundary.NSE, () -> x.dance(0, 8));
        Boundary.due("the most int", Boundary.NSE, () -> x.dance(0, Boundary.MAX));
    }

    static void promise07_yearsSinceItWasDanced() {
        DancedPacts x = Boundary.told(Boundary.PAIR);
        Boundary.due("in year 0", 0, () -> x.dance(0, 4));
        x.years(1);
        Boundary.due("a year later", 1, () -> x.dance(0, 4));
        x.again(0);
        Boundary.due("danced again", 0, () -> x.dance(0, 4));
        for (int i = 0; i < 19; i++) {
            x.years(50);
        }
        x.years(48);
        Boundary.due("in year 999", 998, () -> x.dance(0, 4));
    }

    static void promise07_theFirstAndTheLastStepThatCannotBe() {
        stopsAt("", -1);
        stopsAt("step 0 6 0;", 0);
        stopsAt("turn 0 0;".repeat(9) + "step 0 6 0;", 9);
        stopsAt("turn 0 0;".repeat(9) + "step 0 5 0;", -1);
        stopsAt("step 0 6 0;step 0 6 0;", 0);
    }

    static void promise07_aDanceBrokenOffMayStillBeDanced() {
        DancedPacts x = on7("step 0 5 0;");
        x.breaks(0);
        Boundary.due("broken off", 1, () -> x.dance(0, 5));
        Boundary.due("not binding", 0, () -> x.dance(0, 6));
        Boundary.due("none that can't be", -1, () -> x.dance(0, 7));
        at(x, 0, 0, 5, 3, RIGHT);
    }

    static void promise07_theYearAheadOfWorseKnees() {
        Boundary.nowAndThen("binding", 1, 0, x -> x.dance(0, 6));
        Boundary.nowAndThenOf("valley 9;valley 0;dance 0 1 1;turn 0 2;step 0 1 0;", "can't be", 1, -1,
                x -> x.dance(0, 7));
    }

    static void promise07_theEighthDanceOfTenSteps() {
        DancedPacts x = Boundary.told(Boundary.FULL);
        int[] due = {1, 4, 3, 10, 0, 0, 1, -1};
        for (int what = 0; what < 8; what++) {
            int w = what;
            Boundary.due("what " + w, due[w], () -> x.dance(7, w));
        }
    }

    // Promise 8: step.

    static void promise08_noSuchStep() {
        DancedPacts x = Boundary.told(Boundary.PAIR + "step 1 3 6;" + "bow;".repeat(8) + "hop 0 9 7;valley 0;"
                + "dance 0 2 1;");
        Boundary.due("-1", Boundary.NSE, () -> x.step(0, -1, 0));
        Boundary.due("the first", 3, () -> x.step(0, 0, 2));
        Boundary.due("the last", 9, () -> x.step(0, 9, 2));
        Boundary.due("one more", Boundary.NSE, () -> x.step(0, 10, 0));
        Boundary.due("of a dance without", Boundary.NSE, () -> x.step(1, 0, 0));
        Boundary.due("of no dance", Boundary.NSE, () -> x.step(2, 0, 0));
        Boundary.due("of dance -1", Boundary.NSE, () -> x.step(-1, 10, 0));
        Boundary.due("the most int", Boundary.NSE, () -> x.step(0, Boundary.MAX, 0));
        Boundary.due("the least int", Boundary.NSE, () -> x.step(0, Boundary.MIN, 0));
    }

    static void promise08_anotherWhat() {
        DancedPacts x = Boundary.told(Boundary.PAIR + "hop 1 3 6;");
        int[] due = {2, 1, 3, 6};
        for (int what = 0; what < 4; what++) {
            int w = what;
            Boundary.due("what " + w, due[w], () -> x.step(0, 0, w));
        }
        Boundary.due("what -1", Boundary.NSE, () -> x.step(0, 0, -1));
        Boundary.due("what 4", Boundary.NSE, () -> x.step(0, 0, 4));
        Boundary.due("the most int", Boundary.NSE, () -> x.step(0, 0, Boundary.MAX));
    }

    static void promise08_whatTurnsAndGlovesAndBowsHaveNot() {
        DancedPacts x = Boundary.told(Boundary.PAIR + "hop 0 9 7;turn 1 8;hop 0 9 7;glove 0 6;hop 0 9 7;bow;");
        int[][] due = {{2, 0, 9, 7}, {1, 1, 8, 0}, {2, 0, 9, 7}, {3, 0, 0, 6}, {2, 0, 9, 7}, {4, 2, 0, 0}};
        for (int i = 0; i < due.length; i++) {
            for (int what = 0; what < 4; what++) {
                int k = i;
                int w = what;
                Boundary.due("step " + k + " what " + w, due[k][w], () -> x.step(0, k, w));
            }
        }
    }

    // Promise 9: where.

    static void promise09_aheadOfAll() {
        int[] floors = {4, 5, 12, 19, 20};
        for (int floor : floors) {
            DancedPacts x = Boundary.told("floor " + floor + ";" + Boundary.PAIR);
            at(x, -1, 0, 0, floor / 2, RIGHT);
            at(x, -1, 1, floor - 1, floor / 2, LEFT);
        }
    }

    static void promise09_noSuchStep() {
        DancedPacts x = on7("step 0 1 0;turn 0 1;");
        Boundary.due("-2", Boundary.NSE, () -> x.where(0, -2, 0, 0));
        at(x, -1, 0, 0, 3, RIGHT);
        at(x, 0, 0, 1, 3, RIGHT);
        at(x, 1, 0, 1, 3, DOWN);
        Boundary.due("2", Boundary.NSE, () -> x.where(0, 2, 0, 0));
        Boundary.due("the most int", Boundary.NSE, () -> x.where(0, Boundary.MAX, 0, 0));
        Boundary.due("the least int", Boundary.NSE, () -> x.where(0, Boundary.MIN, 0, 0));
        DancedPacts y = on7("");
        at(y, -1, 1, 6, 3, LEFT);
        Boundary.due("a dance without steps", Boundary.NSE, () -> y.where(0, 0, 0, 0));
        Boundary.due("no such dance", Boundary.NSE, () -> y.where(1, -1, 0, 0));
        Boundary.due("dance -1", Boundary.NSE, () -> y.where(-1, -1, 0, 0));
    }

    static void promise09_anotherWhoOrWhat() {
        DancedPacts x = on7("step 1 2 0;");
        Boundary.due("who -1", Boundary.NSE, () -> x.where(0, 0, -1, 0));
        Boundary.due("who 0", 0, () -> x.where(0, 0, 0, 0));
        Boundary.due("who 1", 4, () -> x.where(0, 0, 1, 0));
        Boundary.due("who 2", Boundary.NSE, () -> x.where(0, 0, 2, 0));
        Boundary.due("who 2 ahead of all", Boundary.NSE, () -> x.where(0, -1, 2, 0));
        Boundary.due("what -1", Boundary.NSE, () -> x.where(0, 0, 0, -1));
        Boundary.due("what 2", RIGHT, () -> x.where(0, 0, 0, 2));
        Boundary.due("what 3", Boundary.NSE, () -> x.where(0, 0, 0, 3));
        Boundary.due("what 3 ahead of all", Boundary.NSE, () -> x.where(0, -1, 0, 3));
    }

    static void promise09_aStepThatIsNotComeTo() {
        DancedPacts x = on7("step 0 3 0;step 0 3 0;bow;");
        at(x, 0, 0, 3, 3, RIGHT);
        for (int i = 1; i <= 2; i++) {
            for (int who = 0; who < 2; who++) {
                int k = i;
                int w = who;
                Boundary.due("behind " + k, Boundary.NSE, () -> x.where(0, k, w, 0));
            }
        }
        x.stumble(0, 1, 2);
        at(x, 2, 0, 6, 3, RIGHT);
        at(x, 2, 1, 5, 3, LEFT);
    }

    static void promise09_turnsWrapAround() {
        for (int n = 0; n <= 9; n++) {
            DancedPacts leader = on7("turn 0 " + n + ";");
            at(leader, 0, 0, 0, 3, n % 4);
            at(leader, 0, 1, 6, 3, LEFT);
            DancedPacts follower = on7("turn 1 " + n + ";");
            at(follower, 0, 0, 0, 3, RIGHT);
            at(follower, 0, 1, 6, 3, (2 + n) % 4);
            DancedPacts both = on7("turn 2 " + n + ";turn 2 9;");
            at(both, 0, 0, 0, 3, n % 4);
            at(both, 0, 1, 6, 3, (2 + n) % 4);
            at(both, 1, 0, 0, 3, (n + 9) % 4);
            at(both, 1, 1, 6, 3, (n + 11) % 4);
        }
    }

    static void promise09_aBowChangesPlacesNotSides() {
        DancedPacts x = on7("turn 0 1;step 0 2 0;bow;bow;");
        at(x, 2, 0, 6, 3, DOWN);
        at(x, 2, 1, 0, 5, LEFT);
        at(x, 3, 0, 0, 5, DOWN);
        at(x, 3, 1, 6, 3, LEFT);
    }

    static void promise09_aGloveMovesNobody() {
        for (int who = 0; who <= 2; who++) {
            DancedPacts x = on7("glove " + who + " 7;");
            at(x, 0, 0, 0, 3, RIGHT);
            at(x, 0, 1, 6, 3, LEFT);
        }
    }

    static void promise09_theFourEdgesOfTheFloor() {
        for (String kind : new String[] {"step", "hop"}) {
            stopsAt("turn 0 3;" + kind + " 0 3 0;", -1);
            stopsAt("turn 0 3;" + kind + " 0 4 0;", 1);
            stopsAt("turn 0 1;" + kind + " 0 3 0;", -1);
            stopsAt("turn 0 1;" + kind + " 0 4 0;", 1);
            stopsAt("turn 0 2;" + kind + " 0 1 0;", 1);
            stopsAt("turn 1 2;" + kind + " 1 1 0;", 1);
            // Past the other one, by a row of its own.
            stopsAt("turn 0 3;step 0 1 0;turn 0 1;" + kind + " 0 6 0;", -1);
            stopsAt("turn 0 3;step 0 1 0;turn 0 1;" + kind + " 0 7 0;", 3);
            stopsAt("turn 1 1;step 1 1 0;turn 1 3;" + kind + " 1 6 0;", -1);
            stopsAt("turn 1 1;step 1 1 0;turn 1 3;" + kind + " 1 7 0;", 3);
        }
        DancedPacts edge = on7("turn 0 3;step 0 3 0;turn 0 1;step 0 6 0;");
        at(edge, 3, 0, 6, 0, RIGHT);
        DancedPacts low = on7("turn 1 3;step 1 3 0;turn 1 1;step 1 6 0;");
        at(low, 3, 1, 0, 6, LEFT);
    }

    static void promise09_anEvenFloorHasOneMoreAbove() {
        DancedPacts x = Boundary.told("floor 4;" + Boundary.PAIR + "turn 0 3;step 0 2 0;turn 0 2;step 0 3 0;");
        Boundary.due("two up, three down", -1, () -> x.dance(0, 7));
        at(x, 3, 0, 0, 3, DOWN);
        DancedPacts y = Boundary.told("floor 4;" + Boundary.PAIR + "turn 0 1;step 0 2 0;");
        Boundary.due("not two down", 1, () -> y.dance(0, 7));
        DancedPacts z = Boundary.told("floor 20;" + Boundary.PAIR + "turn 0 1;step 0 9 0;step 0 1 0;");
        Boundary.due("nine down, not ten", 2, () -> z.dance(0, 7));
    }

    static void promise09_noPlaceAtAllCanAlwaysBe() {
        stopsAt("turn 0 2;step 0 0 0;", -1);
        stopsAt("turn 1 2;hop 1 0 0;", -1);
        stopsAt("step 0 5 0;step 2 0 0;", -1);
    }

    static void promise09_whereTheOtherOneIs() {
        stopsAt("step 0 5 0;", -1);
        stopsAt("step 0 6 0;", 0);
        stopsAt("step 1 5 0;", -1);
        stopsAt("step 1 6 0;", 0);
        stopsAt("hop 0 5 0;", -1);
        stopsAt("hop 0 6 0;", 0);
        stopsAt("step 0 2 0;step 1 3 0;step 0 1 0;", 2);
        stopsAt("step 0 2 0;step 1 3 0;step 1 1 0;", 2);
    }

    static void promise09_theOtherOneOnTheWay() {
        // The FOLLOWER at 3, 3: one goes beyond it, and not off the FLOOR.
        stopsAt("step 1 3 0;step 0 2 0;", -1);
        stopsAt("step 1 3 0;step 0 4 0;", 1);
        stopsAt("step 1 3 0;hop 0 4 0;", 1);
        stopsAt("step 0 3 0;step 1 5 0;", 1);
        stopsAt("step 0 3 0;hop 1 5 0;", 1);
        // Up and down: the LEADER below the FOLLOWER, on one x.
        String column = "step 1 6 0;";
        stopsAt("turn 0 1;step 0 2 0;" + column + "turn 0 2;step 0 1 0;", -1);
        stopsAt("turn 0 1;step 0 2 0;" + column + "turn 0 2;step 0 2 0;", 4);
        stopsAt("turn 0 1;step 0 2 0;" + column + "turn 0 2;step 0 3 0;", 4);
    }

    static void promise09_aStepOfBoth() {
        stopsAt("step 2 2 0;", -1);
        // Each would come to 3, 3: the LEADER is there first.
        stopsAt("step 2 3 0;", 0);
        stopsAt("hop 2 3 0;", 0);
        DancedPacts x = on7("step 2 2 0;step 2 1 0;");
        at(x, 0, 0, 2, 3, RIGHT);
        at(x, 0, 1, 4, 3, LEFT);
        Boundary.due("the second can't be", 1, () -> x.dance(0, 7));
        Boundary.due("of the whole step", 2, () -> x.apart(0));
    }

    static void promise09_theLeaderGoesFirst() {
        // The LEADER, away from the FOLLOWER behind it: both can go.
        DancedPacts x = on7("step 0 5 0;turn 0 2;step 2 1 0;");
        Boundary.due("chased", -1, () -> x.dance(0, 7));
        at(x, 2, 0, 4, 3, LEFT);
        at(x, 2, 1, 5, 3, LEFT);
        // The FOLLOWER away from the LEADER behind it: the LEADER comes to where it is still.
        DancedPacts y = on7("step 1 2 0;step 0 3 0;turn 1 2;step 2 1 0;");
        Boundary.due("chasing", 3, () -> y.dance(0, 7));
        at(y, 2, 0, 3, 3, RIGHT);
        at(y, 2, 1, 4, 3, RIGHT);
    }

    static void promise09_eitherOfBothMayNotLeaveTheFloor() {
        stopsAt("turn 0 2;step 2 1 0;", 1);
        stopsAt("turn 1 2;step 2 1 0;", 1);
        DancedPacts x = on7("turn 1 2;step 2 1 0;");
        Boundary.due("the leader has not gone", 6, () -> x.apart(0));
    }

    static void promise09_kneesAndYearsByTen() {
        int[][] rows = {{0, 0, 5}, {0, 9, 5}, {0, 10, 4}, {0, 19, 4}, {0, 20, 3}, {9, 0, 5}, {9, 1, 4}, {9, 10, 4},
            {9, 11, 3}, {1, 8, 5}, {1, 9, 4}, {5, 44, 1}, {5, 45, 0}, {0, 50, 0}};
        for (int[] row : rows) {
            DancedPacts x = Boundary.told("valley " + row[0] + ";valley 0;floor 7;dance 0 1 1;step 0 5 0;");
            if (row[1] > 0) {
                x.years(row[1]);
            }
            Boundary.due("knees " + row[0] + ", years " + row[1], row[2], () -> x.where(0, 0, 0, 0));
        }
    }

    static void promise09_noneBelow0() {
        DancedPacts x = Boundary.told("valley 9;valley 9;floor 7;dance 0 1 1;step 2 1 0;");
        int[] years = {0, 1, 10, 11, 50};
        int[] due = {1, 0, 0, 0, 0};
        for (int i = 0; i < years.length; i++) {
            int k = i;
            if (years[k] > 0) {
                x.years(years[k]);
            }
            Boundary.due("the leader " + k, due[k], () -> x.where(0, 0, 0, 0));
            Boundary.due("the follower " + k, 6 - due[k], () -> x.where(0, 0, 1, 0));
            if (years[k] > 0) {
                x.undo();
            }
        }
    }

    static void promise09_eachByHisOwnKnees() {
        DancedPacts x = Boundary.told("valley 2;valley 9;floor 7;dance 0 1 1;step 2 2 0;");
        x.years(1);
        at(x, 0, 0, 2, 3, RIGHT);
        at(x, 0, 1, 5, 3, LEFT);
        x.years(7);
        at(x, 0, 0, 1, 3, RIGHT);
        at(x, 0, 1, 5, 3, LEFT);
        x.years(3);
        at(x, 0, 0, 1, 3, RIGHT);
        at(x, 0, 1, 6, 3, LEFT);
    }

    static void promise09_theYearAheadOfWorseKnees() {
        Boundary.nowAndThen("y of the leader", 5, 6, x -> x.where(0, 2, 0, 1));
        Boundary.nowAndThen("y of the follower", 5, 5, x -> x.where(0, 2, 1, 1));
    }

    static void promise09_turnsAndBowsHaveNoKnees() {
        DancedPacts x = Boundary.told("valley 9;valley 9;floor 7;dance 0 1 1;turn 0 1;bow;");
        x.years(50);
        at(x, 1, 0, 6, 3, DOWN);
        at(x, 1, 1, 0, 3, LEFT);
    }

    static void promise09_yearsSinceThatDanceAlone() {
        DancedPacts x = Boundary.told(Boundary.TWO + "valley 0;floor 7;dance 0 1 1;step 0 3 0;dance 0 2 1;step 0 3 0;");
        x.years(10);
        x.again(1);
        Boundary.due("not danced again", 2, () -> x.where(0, 0, 0, 0));
        Boundary.due("danced again", 3, () -> x.where(1, 0, 0, 0));
    }

    // Promises 5 and 7: what is BINDING.

    static void promise07_facingAlongX() {
        binds("", true);
        binds("turn 0 1;", false);
        binds("turn 0 2;", false);
        binds("turn 0 3;", false);
        binds("turn 0 4;", true);
        binds("turn 1 1;", false);
        binds("turn 1 2;", false);
        binds("turn 1 3;", false);
        binds("turn 1 8;", true);
        binds("turn 2 2;", false);
        binds("bow;", false);
        binds("turn 2 2;bow;", true);
        binds("step 0 5 0;", true);
        binds("step 2 2 0;", true);
    }

    static void promise07_facingAlongY() {
        // The LEADER comes to 6, 0, above the FOLLOWER; then to beside it.
        String above = "turn 0 3;step 0 3 0;turn 0 1;step 0 6 0;";
        binds(above + "turn 0 1;turn 1 1;", true);
        binds(above + "turn 0 1;turn 1 1;step 0 2 0;", true);
        binds(above + "turn 0 1;turn 1 3;", false);
        binds(above + "turn 0 3;turn 1 1;", false);
        binds(above + "turn 0 1;", false);
        binds(above + "turn 1 1;", false);
        // The FOLLOWER above the LEADER.
        String below = "turn 1 1;step 1 3 0;turn 1 3;step 1 6 0;";
        binds(below + "turn 0 3;turn 1 3;", true);
        binds(below + "turn 0 3;turn 1 1;", false);
        binds(below + "turn 0 1;turn 1 3;", false);
    }

    static void promise07_notOnOneLine() {
        binds("turn 0 1;step 0 1 0;turn 0 3;", false);
        binds("turn 0 3;step 0 1 0;turn 0 1;", false);
        binds("turn 0 3;step 0 3 0;turn 0 1;step 0 5 0;turn 0 1;turn 1 1;", false);
    }

    static void promise07_aStepThatCannotBeIsNotBinding() {
        binds("step 0 5 0;", true);
        binds("step 0 6 0;", false);
        binds("turn 0 4;step 0 6 0;", false);
        binds("step 0 6 0;turn 0 4;", false);
    }

    static void promise07_brokenOffTillItIsDancedAgain() {
        DancedPacts x = on7("");
        Boundary.due("binding", 1, () -> x.dance(0, 6));
        x.breaks(0);
        Boundary.due("broken off", 0, () -> x.dance(0, 6));
        x.years(50);
        Boundary.due("years later", 0, () -> x.dance(0, 6));
        x.again(0);
        Boundary.due("danced again", 1, () -> x.dance(0, 6));
    }

    static void promise07_againMakesNothingBindingThatIsNot() {
        DancedPacts x = on7("turn 0 1;");
        x.breaks(0);
        x.again(0);
        Boundary.due("not facing", 0, () -> x.dance(0, 6));
    }

    // Promise 10: bound.

    static void promise10_noSuchValleyOrAbout() {
        DancedPacts x = Boundary.told(Boundary.PAIR + "step 2 1 0;step 2 2 7;");
        Boundary.due("valley -1", Boundary.NSE, () -> x.bound(-1, 0));
        Boundary.due("valley 0", 2, () -> x.bound(0, 0));
        Boundary.due("valley 1", 4, () -> x.bound(1, 7));
        Boundary.due("valley 2", Boundary.NSE, () -> x.bound(2, 0));
        Boundary.due("about -1", Boundary.NSE, () -> x.bound(0, -1));
        Boundary.due("about 7", 4, () -> x.bound(0, 7));
        Boundary.due("about 8", Boundary.NSE, () -> x.bound(0, 8));
        Boundary.due("the most int", Boundary.NSE, () -> x.bound(0, Boundary.MAX));
        Boundary.due("the least int", Boundary.NSE, () -> x.bound(Boundary.MIN, 0));
    }

    static void promise10_toNothingAndTo0() {
        DancedPacts x = Boundary.told(Boundary.PAIR + "limit 0;step 0 1 3;");
        Boundary.due("to 0", 0, () -> x.bound(0, 3));
        Boundary.due("to nothing", -1, () -> x.bound(0, 2));
        Boundary.due("the other one", -1, () -> x.bound(1, 3));
    }

    static void promise10_keptTo0To99() {
        String[] rules = {"0-1", "0", "1", "98", "99", "100", "9999", "0-9999"};
        int[] due = {0, 0, 1, 98, 99, 99, 99, 0};
        for (int i = 0; i < rules.length; i++) {
            int k = i;
            DancedPacts x = Boundary.told(Boundary.PAIR + "step 0 1 3;limit " + rules[i] + ";");
            Boundary.due("limit " + rules[k], due[k], () -> x.bound(0, 3));
        }
    }

    static void promise10_withoutARuleNByTime() {
        for (int time = 1; time <= 4; time++) {
            for (int n = 1; n <= 9; n++) {
                int due = n * time;
                DancedPacts x = Boundary.told(Boundary.TWO + "dance 0 1 " + time + ";step 0 " + n + " 3;");
                Boundary.due("n " + n + " time " + time, due, () -> x.bound(0, 3));
            }
        }
    }

    static void promise10_nOf0IsNoClause() {
        DancedPacts x = Boundary.told(Boundary.PAIR + "limit 5;step 0 0 3;hop 1 0 4;");
        Boundary.due("step 0", -1, () -> x.bound(0, 3));
        Boundary.due("hop 0", -1, () -> x.bound(1, 4));
        x.stumble(0, 0, 1);
        x.stumble(0, 1, 1);
        Boundary.due("step 1", 5, () -> x.bound(0, 3));
        Boundary.due("hop 1", 5, () -> x.bound(1, 4));
        x.stumble(0, 0, 0);
        Boundary.due("step 0 again", -1, () -> x.bound(0, 3));
    }

    static void promise10_turnsGlovesAndBowsAreNoClauses() {
        DancedPacts x = Boundary.told(Boundary.PAIR + "limit 5;turn 2 4;glove 0 3;bow;bow;");
        for (int about = 0; about < 8; about++) {
            int a = about;
            Boundary.due("about " + a, -1, () -> x.bound(0, a));
            Boundary.due("about " + a, -1, () -> x.bound(1, a));
        }
    }

    static void promise10_onlyBindingDances() {
        DancedPacts x = Boundary.told(Boundary.PAIR + "step 0 2 3;turn 0 4;");
        Boundary.due("binding", 4, () -> x.bound(0, 3));
        x.stumble(0, 1, 3);
        Boundary.due("not binding", -1, () -> x.bound(0, 3));
        x.undo();
        x.breaks(0);
        Boundary.due("broken off", -1, () -> x.bound(0, 3));
        x.again(0);
        Boundary.due("danced again", 4, () -> x.bound(0, 3));
    }

    static void promise10_nAsItIsWhateverKnees() {
        DancedPacts x = Boundary.told("valley 9;valley 9;dance 0 1 2;step 0 1 3;hop 1 2 4;");
        x.years(50);
        Boundary.due("a step of no place", 2, () -> x.bound(0, 3));
        Boundary.due("a hop of no place", 4, () -> x.bound(1, 4));
        Boundary.due("it goes none", 0, () -> x.where(0, 1, 0, 0));
    }

    static void promise10_theLeastOfAllDances() {
        DancedPacts x = Boundary.told(Boundary.TWO + "valley 0;dance 0 1 1;step 0 4 3;step 0 3 3;step 0 1 2;"
                + "dance 2 0 1;step 1 2 3;step 0 1 3;hop 1 5 3;");
        Boundary.due("the least", 2, () -> x.bound(0, 3));
        x.breaks(1);
        Boundary.due("of the first dance", 3, () -> x.bound(0, 3));
        x.stumble(0, 1, 0);
        Boundary.due("of the first step", 4, () -> x.bound(0, 3));
        Boundary.due("about another", 1, () -> x.bound(0, 2));
    }

    static void promise10_whoIsBound() {
        DancedPacts x = Boundary.told(Boundary.PAIR + "step 0 1 0;step 1 1 1;step 2 1 2;hop 0 1 3;hop 1 1 4;hop 2 1 5;");
        int[] leader = {2, -1, 2, 2, -1, 2, -1, -1};
        int[] follower = {-1, 2, 2, -1, 2, 2, -1, -1};
        for (int about = 0; about < 8; about++) {
            int a = about;
            Boundary.due("the leader about " + a, leader[a], () -> x.bound(0, a));
            Boundary.due("the follower about " + a, follower[a], () -> x.bound(1, a));
        }
    }

    static void promise10_gloves() {
        String steps = "step 2 1 3;hop 2 1 4;";
        int[][] due = {{-1, 2}, {2, -1}, {-1, -1}};
        for (int who = 0; who <= 2; who++) {
            for (int place = 0; place < 2; place++) {
                String glove = "glove " + who + " 3;";
                DancedPacts x = Boundary.told(Boundary.PAIR + (place == 0 ? glove + steps : steps + glove));
                int w = who;
                Boundary.due("the leader, glove of " + w, due[w][0], () -> x.bound(0, 3));
                Boundary.due("the follower, glove of " + w, due[w][1], () -> x.bound(1, 3));
                Boundary.due("the leader about another", 2, () -> x.bound(0, 4));
                Boundary.due("the follower about another", 2, () -> x.bound(1, 4));
            }
        }
    }

    static void promise10_aGloveOfAnotherDance() {
        DancedPacts x = Boundary.told(Boundary.TWO + "valley 0;dance 0 1 1;step 0 2 3;dance 0 2 1;glove 0 3;step 0 1 3;");
        Boundary.due("by the first dance alone", 2, () -> x.bound(0, 3));
        x.breaks(0);
        Boundary.due("not by the second", -1, () -> x.bound(0, 3));
    }

    static void promise10_theYearAheadOfWorseKnees() {
        Boundary.nowAndThen("the leader", 3, -1, x -> x.bound(0, 3));
        Boundary.nowAndThen("the follower", 2, 2, x -> x.bound(1, 3));
        Boundary.nowAndThen("by a hop", 3, -1, x -> x.bound(1, 4));
    }

    static void promise10_theEighthDanceOfTenSteps() {
        DancedPacts x = Boundary.told(Boundary.SIX + "dance 0 1 1;dance 0 2 1;dance 0 3 1;dance 0 4 1;dance 0 5 1;"
                + "dance 1 2 1;dance 1 3 1;dance 1 4 4;" + "glove 0 0;".repeat(9) + "step 2 2 7;");
        Boundary.due("the leader", 8, () -> x.bound(1, 7));
        Boundary.due("the follower", 8, () -> x.bound(4, 7));
        Boundary.due("another", -1, () -> x.bound(5, 7));
        Boundary.due("the leader's gloves", 9, () -> x.clauses(1, 2));
        Boundary.due("the follower's gloves", 0, () -> x.clauses(4, 2));
        Boundary.due("the follower's clauses", 1, () -> x.clauses(4, 0));
        DancedPacts y = Boundary.told(Boundary.FULL);
        for (int valley = 0; valley < 6; valley++) {
            int v = valley;
            Boundary.due("nobody is bound", -1, () -> y.bound(v, 7));
        }
    }

    static void promise10_divisionBy0AndCutDown() {
        String[] rules = {"7/0", "7/0+4", "(0-7)/0+4", "0/0", "7/2", "1/2", "(0-7)/2+10", "7/(0-2)+10", "(0-1)/2+10",
            "(0-7)/(0-2)", "99/10*10", "9/3/3"};
        int[] due = {0, 4, 4, 0, 3, 0, 7, 7, 10, 3, 90, 1};
        limits(rules, due);
    }

    static void promise10_intsThatWrap() {
        // 8192 times 8192 is 2 to the 26: 32 of it are 2 to the 31, the least int; 64 of it are 0.
        String[] rules = {"8192*8192*64+7", "8192*8192*32", "8192*8192*32-1", "0-8192*8192*32",
            "8192*8192*32/(0-1)", "(8192*8192*32<0)*50", "(8192*8192*32-1<0)*50", "(0<8192*8192*32-1)*50",
            "8192*8192*31+8192*8191+8191+1<0", "8192*8192*32*2+3"};
        int[] due = {7, 0, 99, 0, 0, 50, 0, 50, 1, 3};
        limits(rules, due);
    }

    static void promise10_testsAre1Or0() {
        String[] rules = {"2<3", "3<3", "4<3", "2=3", "3=3", "(0-1)<0", "0-1=0-1", "50*(2<3)", "50*(3=3)",
            "(1<2)+(2<3)+(3=3)"};
        int[] due = {1, 0, 0, 0, 1, 1, 1, 50, 50, 3};
        limits(rules, due);
    }

    static void promise10_whatIsNot0Holds() {
        String[] rules = {"not 0", "not 1", "not 2", "not (0-1)", "not not 7", "not not 0", "5 and 7", "(0-1) and 1",
            "1 and 0", "0 and 1", "0 or 0", "0 or 5", "(0-5) or 0", "1 or 1", "50*(5 and 7)", "50*(5 or 7)"};
        int[] due = {1, 0, 0, 0, 1, 0, 1, 1, 0, 0, 0, 1, 1, 1, 50, 50};
        limits(rules, due);
    }

    static void promise10_whatBindsCloser() {
        String[] rules = {"1 or 0 and 0", "(1 or 0) and 0", "0 and 0 or 1", "not 1 or 1", "not (1 or 1)", "not 1 and 0",
            "not 3<2", "not 0+5", "1+1<3", "3<1+1", "2+3*4", "2*3+4", "(2+3)*4", "20-3-2", "20-(3-2)", "80/4/2",
            "80/(4/2)", "80/4*2", "1<2 and 2<3", "4=2*2", "not not 1<1"};
        int[] due = {1, 0, 1, 1, 0, 0, 1, 0, 1, 0, 14, 10, 20, 15, 19, 10, 40, 40, 1, 1, 0};
        limits(rules, due);
    }

    static void promise10_theMostThatWaits() {
        // Five parts wait in each of six EXPRs; each tells whether what is within it is 0, or is 1.
        String is0 = "0 or 1 and 0=0+1*";
        String is1 = "0 or 1 and 1=0+1*";
        String[] rules = {is0 + "0", within(is0, "0"), within(is0, "1"), within(is1, "0"), within(is1, "1"),
            within(is1, "2"), "1" + "+1".repeat(300), "1" + "-1".repeat(300) + "+350"};
        int[] due = {1, 0, 1, 0, 1, 0, 301, 51};
        limits(rules, due);
    }

    private static String within(String ahead, String part) {
        return (ahead + "(").repeat(5) + ahead + part + ")".repeat(5);
    }

    private static void limits(String[] rules, int[] due) {
        Boundary.due("as many rules as answers", rules.length, () -> due.length);
        for (int i = 0; i < rules.length; i++) {
            int k = i;
            DancedPacts x = Boundary.told(Boundary.PAIR + "step 0 1 3;limit " + rules[i] + ";");
            Boundary.due("limit " + rules[k], Math.min(99, due[k]), () -> x.bound(0, 3));
        }
    }

    static void promise10_theValuesOfAClause() {
        String[] rules = {"n", "about", "time", "hop", "place", "lead"};
        // Of the first STEP (a step of both), of the last one (a hop of both): the LEADER's, the FOLLOWER's.
        int[][] due = {{1, 1, 9, 9}, {0, 0, 7, 7}, {4, 4, 4, 4}, {0, 0, 1, 1}, {0, 0, 9, 9}, {1, 0, 1, 0}};
        for (int i = 0; i < rules.length; i++) {
            int k = i;
            // Nine PLACES of both are too many; in fifty YEARS they go four.
            DancedPacts x = Boundary.told("valley 0;valley 0;floor 20;dance 1 0 4;step 2 1 0;" + "glove 2 5;".repeat(8)
                    + "hop 2 9 7;limit " + rules[i] + ";");
            Boundary.due("binding now", 0, () -> x.dance(0, 6));
            x.years(50);
            Boundary.due("binding then", 1, () -> x.dance(0, 6));
            Boundary.due("leader " + rules[k], due[k][0], () -> x.bound(1, 0));
            Boundary.due("follower " + rules[k], due[k][1], () -> x.bound(0, 0));
            Boundary.due("leader, hop " + rules[k], due[k][2], () -> x.bound(1, 7));
            Boundary.due("follower, hop " + rules[k], due[k][3], () -> x.bound(0, 7));
        }
    }

    // Promise 11: clauses.

    static void promise11_noSuchValleyOrWhat() {
        DancedPacts x = Boundary.told(Boundary.PAIR + "step 0 1 0;hop 1 1 1;glove 0 5;");
        int[] leader = {1, 1, 1};
        int[] follower = {1, 0, 0};
        for (int what = 0; what < 3; what++) {
            int w = what;
            Boundary.due("leader " + w, leader[w], () -> x.clauses(0, w));
            Boundary.due("follower " + w, follower[w], () -> x.clauses(1, w));
            Boundary.due("valley -1", Boundary.NSE, () -> x.clauses(-1, w));
            Boundary.due("valley 2", Boundary.NSE, () -> x.clauses(2, w));
        }
        Boundary.due("what -1", Boundary.NSE, () -> x.clauses(0, -1));
        Boundary.due("what 3", Boundary.NSE, () -> x.clauses(0, 3));
        Boundary.due("the most int", Boundary.NSE, () -> x.clauses(0, Boundary.MAX));
    }

    static void promise11_hopsOfOneAloneAreHidden() {
        String[] steps = {"hop 0 1 1;", "hop 1 1 1;", "hop 2 1 1;", "step 0 1 1;", "hop 0 0 1;", "hop 1 0 1;"};
        int[][] due = {{0, 1}, {1, 0}, {0, 0}, {0, 0}, {0, 0}, {0, 0}};
        for (int i = 0; i < steps.length; i++) {
            int k = i;
            DancedPacts x = Boundary.told(Boundary.PAIR + steps[i]);
            Boundary.due("from the leader, " + steps[k], due[k][0], () -> x.clauses(0, 1));
            Boundary.due("from the follower, " + steps[k], due[k][1], () -> x.clauses(1, 1));
        }
    }

    static void promise11_aStepOfNoPlaceIsNoClause() {
        DancedPacts x = Boundary.told(Boundary.PAIR + "step 2 0 1;hop 2 1 1;");
        Boundary.due("one", 1, () -> x.clauses(0, 0));
        x.stumble(0, 0, 1);
        Boundary.due("two", 2, () -> x.clauses(0, 0));
        Boundary.due("two of the other one", 2, () -> x.clauses(1, 0));
    }

    static void promise11_whoHasAGloveIsNotBound() {
        DancedPacts x = Boundary.told(Boundary.PAIR + "step 2 1 1;step 2 1 2;glove 0 1;glove 0 1;");
        Boundary.due("the leader", 1, () -> x.clauses(0, 0));
        Boundary.due("the follower", 2, () -> x.clauses(1, 0));
        Boundary.due("the leader's gloves", 2, () -> x.clauses(0, 2));
        Boundary.due("the follower's gloves", 0, () -> x.clauses(1, 2));
    }

    static void promise11_glovesOfBoth() {
        DancedPacts x = Boundary.told(Boundary.PAIR + "glove 2 1;glove 1 1;");
        Boundary.due("the leader's gloves", 1, () -> x.clauses(0, 2));
        Boundary.due("the follower's gloves", 2, () -> x.clauses(1, 2));
    }

    static void promise11_inBindingDancesAlone() {
        DancedPacts x = Boundary.told(Boundary.PAIR + "step 0 1 1;hop 1 1 2;glove 0 7;turn 0 4;");
        x.stumble(0, 3, 5);
        for (int what = 0; what < 3; what++) {
            int w = what;
            Boundary.due("not binding " + w, 0, () -> x.clauses(0, w));
        }
        x.undo();
        for (int what = 0; what < 3; what++) {
            int w = what;
            Boundary.due("binding " + w, 1, () -> x.clauses(0, w));
        }
        x.breaks(0);
        for (int what = 0; what < 3; what++) {
            int w = what;
            Boundary.due("broken off " + w, 0, () -> x.clauses(0, w));
        }
    }

    static void promise11_ofAllDances() {
        DancedPacts x = Boundary.told(Boundary.TWO + "valley 0;dance 0 1 1;step 0 1 1;hop 1 1 1;glove 0 2;"
                + "dance 2 0 1;step 1 1 1;hop 0 1 1;glove 1 3;dance 1 2 1;step 2 1 1;hop 0 1 1;glove 2 3;");
        int[][] due = {{2, 2, 2}, {3, 0, 1}, {2, 1, 1}};
        for (int valley = 0; valley < 3; valley++) {
            for (int what = 0; what < 3; what++) {
                int v = valley;
                int w = what;
                Boundary.due("valley " + v + " what " + w, due[v][w], () -> x.clauses(v, w));
            }
        }
    }

    static void promise11_theYearAheadOfWorseKnees() {
        Boundary.nowAndThen("bind", 1, 0, x -> x.clauses(0, 0));
        Boundary.nowAndThen("hidden", 1, 0, x -> x.clauses(0, 1));
        Boundary.nowAndThen("gloves", 1, 0, x -> x.clauses(0, 2));
    }

    static void promise11_allThatThereCanBe() {
        DancedPacts x = Boundary.told(Boundary.FULL);
        for (int valley = 0; valley < 6; valley++) {
            for (int what = 0; what < 3; what++) {
                int v = valley;
                int w = what;
                Boundary.due("valley " + v + " what " + w, 0, () -> x.clauses(v, w));
            }
        }
    }

    // Promise 12: done.

    static void promise12_noSuchValleyAboutOrWhat() {
        DancedPacts x = Boundary.told(Boundary.PAIR);
        x.act(0, 0, 1);
        x.act(1, 7, 2);
        for (int what = 0; what < 2; what++) {
            int w = what;
            Boundary.due("valley -1", Boundary.NSE, () -> x.done(-1, 0, w));
            Boundary.due("valley 2", Boundary.NSE, () -> x.done(2, 0, w));
            Boundary.due("about -1", Boundary.NSE, () -> x.done(0, -1, w));
            Boundary.due("about 8", Boundary.NSE, () -> x.done(0, 8, w));
        }
        Boundary.due("the first", 1, () -> x.done(0, 0, 0));
        Boundary.due("the last", 2, () -> x.done(1, 7, 0));
        Boundary.due("what -1", Boundary.NSE, () -> x.done(0, 0, -1));
        Boundary.due("what 2", Boundary.NSE, () -> x.done(0, 0, 2));
        Boundary.due("the most int", Boundary.NSE, () -> x.done(0, 0, Boundary.MAX));
    }

    static void promise12_asMuchAsItIsBoundTo() {
        DancedPacts x = Boundary.told(Boundary.PAIR + "step 0 2 3;");
        Boundary.due("bound", 4, () -> x.bound(0, 3));
        x.act(0, 3, 3);
        Boundary.due("less", 0, () -> x.done(0, 3, 1));
        x.act(0, 3, 1);
        Boundary.due("as much", 0, () -> x.done(0, 3, 1));
        x.act(0, 3, 1);
        Boundary.due("more", 1, () -> x.done(0, 3, 1));
        Boundary.due("about another", 0, () -> x.done(0, 2, 1));
        Boundary.due("the other one", 0, () -> x.done(1, 3, 1));
    }

    static void promise12_boundTo0() {
        DancedPacts x = Boundary.told(Boundary.PAIR + "limit 0;step 0 2 3;");
        Boundary.due("nothing done", 0, () -> x.done(0, 3, 1));
        x.act(0, 3, 1);
        Boundary.due("1 done", 1, () -> x.done(0, 3, 1));
    }

    static void promise12_boundToNothing() {
        DancedPacts x = Boundary.told(Boundary.PAIR + "step 0 2 3;");
        for (int i = 0; i < 101; i++) {
            x.act(1, 3, 99);
        }
        Boundary.due("all that can be done", 9999, () -> x.done(1, 3, 0));
        Boundary.due("no stamp", 0, () -> x.done(1, 3, 1));
        Boundary.due("nobody", 0, () -> x.count(5));
    }

    static void promise12_theYearAheadOfWorseKnees() {
        DancedPacts x = Boundary.told(Boundary.LAME);
        x.act(0, 3, 4);
        Boundary.due("stamped now", 1, () -> x.done(0, 3, 1));
        x.years(1);
        Boundary.due("not a year later", 0, () -> x.done(0, 3, 1));
    }

    static void promise12_aStampEndsWithWhatBinds() {
        DancedPacts x = Boundary.told(Boundary.PAIR + "step 0 2 3;");
        x.act(0, 3, 5);
        Boundary.due("stamped", 1, () -> x.done(0, 3, 1));
        x.breaks(0);
        Boundary.due("not bound", 0, () -> x.done(0, 3, 1));
        x.again(0);
        Boundary.due("stamped again", 1, () -> x.done(0, 3, 1));
    }
}
