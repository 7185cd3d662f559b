/** The boundary cases of promises 27 to 33: what is seen, limps, games, years by a seed, the image. */
public final class BoundariesOfSightTest {
    private static final String STEPS = Boundary.PAIR + "step 0 4 0;turn 0 4;hop 1 2 0;glove 0 5;bow;bow;";

    public static void main(String[] args) throws ReflectiveOperationException {
        Boundary.runAll(BoundariesOfSightTest.class);
    }

    /** What is taken is SEEN, and none is refused. */
    private static void takes(String what, Boundary.Ask see) {
        DancedPacts x = Boundary.living();
        Boundary.due(what, 3, () -> see.of(x));
        Boundary.due("seen, " + what, 3, () -> x.count(7));
        Boundary.due("none refused, " + what, 1, () -> x.count(11));
    }

    // Promise 27: see.

    static void promise27_anotherWho() {
        Boundary.leavesAll("who -1", -1, 2, x -> x.see(0, 0, -1, 0, 0));
        takes("who 0", x -> x.see(0, 0, 0, 0, 0));
        takes("who 1", x -> x.see(0, 0, 1, 0, 0));
        Boundary.leavesAll("who 2", -1, 2, x -> x.see(0, 0, 2, 0, 0));
        Boundary.leavesAll("who of the most int", -1, 2, x -> x.see(0, 0, Boundary.MAX, 0, 0));
    }

    static void promise27_noSuchPlaceAlongX() {
        Boundary.leavesAll("x -1", -1, 2, x -> x.see(0, 0, 0, -1, 0));
        takes("x 0", x -> x.see(0, 0, 0, 0, 4));
        takes("x 8", x -> x.see(0, 0, 0, 8, 4));
        Boundary.leavesAll("x 9", -1, 2, x -> x.see(0, 0, 0, 9, 0));
        Boundary.leavesAll("x of the least int", -1, 2, x -> x.see(0, 0, 0, Boundary.MIN, 0));
    }

    static void promise27_noSuchPlaceAlongY() {
        Boundary.leavesAll("y -1", -1, 2, x -> x.see(0, 0, 0, 0, -1));
        takes("y 0", x -> x.see(0, 0, 0, 4, 0));
        takes("y 8", x -> x.see(0, 0, 0, 4, 8));
        Boundary.leavesAll("y 9", -1, 2, x -> x.see(0, 0, 0, 0, 9));
        Boundary.leavesAll("y of the most int", -1, 2, x -> x.see(0, 0, 0, 0, Boundary.MAX));
    }

    static void promise27_placesOfEachFloor() {
        for (int floor = 4; floor <= 20; floor++) {
            int f = floor;
            DancedPacts x = Boundary.told("floor " + floor + ";" + STEPS);
            Boundary.due("x beyond " + f, -1, () -> x.see(0, 0, 0, f, f - 1));
            Boundary.due("y beyond " + f, -1, () -> x.see(0, 0, 0, f - 1, f));
            Boundary.due("the last of " + f, 1, () -> x.see(0, 0, 0, f - 1, f - 1));
        }
    }

    static void promise27_noSuchDanceOrStepAheadOfAll() {
        Boundary.leavesAll("dance -1", Boundary.NSE, -1, x -> x.see(-1, 0, 2, -1, -1));
        Boundary.leavesAll("dance 2", Boundary.NSE, -1, x -> x.see(2, 0, 2, -1, -1));
        Boundary.leavesAll("step -1", Boundary.NSE, -1, x -> x.see(0, -1, 2, -1, -1));
        Boundary.leavesAll("step 6", Boundary.NSE, -1, x -> x.see(0, 6, 2, -1, -1));
        Boundary.leavesAll("step 2 of dance 1", Boundary.NSE, -1, x -> x.see(1, 2, 0, 0, 0));
        Boundary.leavesAll("step of the most int", Boundary.NSE, -1, x -> x.see(0, Boundary.MAX, 0, 0, 0));
        takes("step 5", x -> x.see(0, 5, 0, 0, 0));
        takes("step 1 of dance 1", x -> x.see(1, 1, 0, 0, 0));
    }

    static void promise27_eightAreSeen() {
        DancedPacts x = Boundary.told(STEPS);
        for (int i = 1; i <= 8; i++) {
            int many = i;
            Boundary.due("see " + i, many, () -> x.see(0, 0, 0, 4, 6));
        }
        Boundary.due("the ninth", -1, () -> x.see(0, 0, 0, 4, 6));
        Boundary.due("eight", 8, () -> x.count(7));
        Boundary.due("refused", 1, () -> x.count(11));
        Boundary.due("no such step ahead of that", Boundary.NSE, () -> x.see(0, 6, 0, 4, 6));
        Boundary.due("refused still", 1, () -> x.count(11));
    }

    static void promise27_theNinthLeavesAll() {
        Boundary.leavesAllOf("the ninth", -1, 2, x -> {
            Boundary.live(x);
            for (int i = 0; i < 6; i++) {
                x.see(0, 0, 0, 2, 4);
            }
        }, x -> x.see(0, 0, 0, 7, 7));
    }

    static void promise27_noAct() {
        DancedPacts x = Boundary.told(STEPS);
        x.see(0, 0, 0, 4, 6);
        Boundary.due("acts", 0, () -> x.count(6));
        Boundary.due("undo", -1, x::undo);
        Boundary.due("seen", 1, () -> x.count(7));
    }

    static void promise27_aStepThatIsNotComeTo() {
        DancedPacts x = Boundary.told(Boundary.PAIR + "step 0 9 0;step 0 9 0;");
        Boundary.due("see", 1, () -> x.see(0, 1, 0, 9, 6));
        Boundary.due("it is not so", 0, () -> x.limp(0, 2));
    }

    // Promise 28: limp.

    private static void limps(DancedPacts x, int many, int first, int without) {
        Boundary.due("how many", many, () -> x.limp(0, 0));
        Boundary.due("the first", first, () -> x.limp(0, 1));
        Boundary.due("without", without, () -> x.limp(0, 2));
    }

    static void promise28_noSuchDanceOrWhat() {
        DancedPacts x = Boundary.told(STEPS);
        Boundary.due("dance -1", Boundary.NSE, () -> x.limp(-1, 0));
        Boundary.due("dance 1", Boundary.NSE, () -> x.limp(1, 0));
        Boundary.due("what -1", Boundary.NSE, () -> x.limp(0, -1));
        limps(x, 27, 0, 1);
        Boundary.due("what 3", Boundary.NSE, () -> x.limp(0, 3));
        Boundary.due("what of the most int", Boundary.NSE, () -> x.limp(0, Boundary.MAX));
    }

    static void promise28_nothingSeen() {
        limps(Boundary.told(Boundary.PAIR), 0, -1, 1);
        limps(Boundary.told(Boundary.PAIR + "glove 0 1;bow;"), 0, -1, 1);
        limps(Boundary.told(Boundary.PAIR + "bow;turn 0 0;"), 9, 11, 1);
        limps(Boundary.told(Boundary.PAIR + "bow;turn 0 1;"), 9, 10, 1);
        limps(Boundary.told(Boundary.PAIR + "turn 0 5;".repeat(10)), 90, 0, 1);
        // A STEP that can't be is not asked for.
        limps(Boundary.told(Boundary.PAIR + "turn 0 2;step 0 9 0;"), 18, 0, 1);
    }

    static void promise28_seenOfAnotherDance() {
        DancedPacts x = Boundary.told(Boundary.PAIR + "step 0 4 0;valley 0;dance 0 2 1;step 0 4 0;");
        x.see(1, 0, 0, 0, 0);
        limps(x, 9, 0, 1);
        Boundary.due("of that dance", 0, () -> x.limp(1, 2));
        Boundary.due("none of that dance", 0, () -> x.limp(1, 0));
        Boundary.due("no first of that dance", -1, () -> x.limp(1, 1));
    }

    static void promise28_theFirstNAndTheLast() {
        for (int n = 0; n <= 9; n++) {
            DancedPacts x = Boundary.told(Boundary.PAIR + "step 0 4 0;");
            x.see(0, 0, 0, n, 6);
            limps(x, n == 4 ? 0 : 1, n == 4 ? -1 : n, n == 4 ? 1 : 0);
        }
        DancedPacts ten = Boundary.told(Boundary.PAIR + "step 0 4 0;");
        ten.see(0, 0, 0, 10, 6);
        limps(ten, 0, -1, 0);
    }

    static void promise28_anotherThanItIs() {
        DancedPacts x = Boundary.told(Boundary.PAIR + "step 0 4 0;");
        x.see(0, 0, 0, 4, 6);
        limps(x, 0, -1, 1);
        x.stumble(0, 0, 3);
        limps(x, 1, 4, 0);
    }

    static void promise28_theLastStepOfTen() {
        DancedPacts x = Boundary.told(Boundary.PAIR + "glove 0 0;".repeat(9) + "step 0 4 0;");
        x.see(0, 9, 0, 9, 6);
        limps(x, 1, 99, 0);
    }

    static void promise28_xAndYOfEither() {
        DancedPacts x = Boundary.told(Boundary.PAIR + "step 0 4 0;");
        x.see(0, 0, 0, 5, 6);
        limps(x, 1, 5, 0);
        x.see(0, 0, 1, 11, 6);
        limps(x, 1, 5, 0);
        x.see(0, 0, 1, 11, 5);
        limps(x, 0, -1, 0);
        DancedPacts y = Boundary.told(Boundary.PAIR + "step 1 4 0;");
        y.see(0, 0, 1, 6, 6);
        limps(y, 1, 5, 0);
    }

    static void promise28_allThatIsSeen() {
        DancedPacts x = Boundary.told(Boundary.PAIR + "step 0 4 0;step 0 2 0;");
        x.see(0, 1, 0, 5, 6);
        limps(x, 2, 3, 0);
        x.see(0, 0, 0, 4, 6);
        limps(x, 1, 11, 0);
        x.see(0, 0, 0, 3, 6);
        limps(x, 0, -1, 0);
        x.forget();
        limps(x, 18, 0, 1);
    }

    static void promise28_theEighthCounts() {
        DancedPacts x = Boundary.told(Boundary.PAIR + "step 0 4 0;");
        for (int i = 0; i < 7; i++) {
            x.see(0, 0, 0, 4, 6);
        }
        limps(x, 0, -1, 1);
        x.see(0, 0, 0, 5, 6);
        limps(x, 0, -1, 0);
    }

    static void promise28_notComeToIsNotSo() {
        DancedPacts x = Boundary.told(Boundary.PAIR + "step 0 9 0;step 0 9 0;turn 0 1;");
        x.see(0, 2, 1, 11, 6);
        // 0 and 1 of the first, then 0 and 1 of the second.
        limps(x, 4, 0, 0);
        x.see(0, 1, 0, 10, 6);
        limps(x, 2, 1, 0);
    }

    static void promise28_turnsTooAndWrappedOnes() {
        DancedPacts x = Boundary.told(Boundary.PAIR + "turn 0 0;step 0 1 0;");
        x.see(0, 1, 0, 0, 5);
        // Three quarters, or seven.
        limps(x, 2, 3, 0);
        DancedPacts y = Boundary.told(Boundary.PAIR + "turn 0 0;step 0 1 0;");
        y.see(0, 1, 0, 0, 7);
        // One quarter, or five, or nine.
        limps(y, 3, 1, 0);
    }

    static void promise28_asItIsNow() {
        DancedPacts x = Boundary.told(Boundary.PAIR + "step 0 4 0;");
        x.see(0, 0, 0, 3, 6);
        limps(x, 1, 3, 0);
        x.years(10);
        limps(x, 0, -1, 1);
        x.breaks(0);
        limps(x, 0, -1, 1);
    }

    static void promise28_noneByKnees() {
        DancedPacts x = Boundary.told(Boundary.PAIR + "step 0 4 0;");
        x.years(20);
        x.see(0, 0, 0, 0, 6);
        // 0, 1 and 2 go none.
        limps(x, 3, 0, 0);
    }

    static void promise28_askingChangesNothing() {
        for (int what = 0; what < 3; what++) {
            int w = what;
            Object due = Boundary.living().limp(1, w);
            Boundary.leavesAll("limp " + w, due, -1, x -> x.limp(1, w));
        }
    }

    static void promise28_theYearAheadOfWorseKnees() {
        DancedPacts x = Boundary.told(Boundary.LAME);
        x.see(0, 2, 0, 0, 5);
        Boundary.due("so now", 1, () -> x.limp(0, 2));
        x.years(1);
        Boundary.due("not so a year later", 0, () -> x.limp(0, 2));
        Boundary.due("by N of 2 then", 22, () -> x.limp(0, 1));
    }

    static void promise28_tenStepsOfTheEighthDance() {
        DancedPacts x = Boundary.told(Boundary.FULL);
        x.see(7, 9, 0, 0, 6);
        Boundary.due("how many", 90, () -> x.limp(7, 0));
        Boundary.due("the first", 0, () -> x.limp(7, 1));
        Boundary.due("without", 1, () -> x.limp(7, 2));
        x.see(7, 9, 0, 1, 6);
        Boundary.due("none", 0, () -> x.limp(7, 0));
        Boundary.due("no first", -1, () -> x.limp(7, 1));
        Boundary.due("not so", 0, () -> x.limp(7, 2));
    }

    // Promise 29: forget.

    static void promise29_noneAndEight() {
        DancedPacts x = Boundary.told(STEPS);
        x.forget();
        Boundary.due("none", 0, () -> x.count(7));
        for (int i = 0; i < 8; i++) {
            x.see(0, 0, 0, 1, 1);
        }
        Boundary.due("full", -1, () -> x.see(0, 0, 0, 1, 1));
        x.forget();
        Boundary.due("forgotten", 0, () -> x.count(7));
        Boundary.due("room again", 1, () -> x.see(0, 0, 0, 4, 6));
        Boundary.due("only that", 1, () -> x.limp(0, 2));
        Boundary.due("refused stays", 1, () -> x.count(11));
    }

    static void promise29_nothingElse() {
        Boundary.leavesAllOf("forget", "forgotten", -1, x -> {
            Boundary.live(x);
            x.forget();
        }, x -> {
            x.forget();
            return "forgotten";
        });
        DancedPacts x = Boundary.living();
        x.forget();
        Boundary.due("acts stay", 6, () -> x.count(6));
        Boundary.due("the image stays", true, x::restore);
        Boundary.due("what it saw too", 1, () -> x.count(7));
    }

    // Promise 30: game.

    static void promise30_noSuchValleysAboutOrWhat() {
        DancedPacts x = Boundary.told(Boundary.PAIR);
        Boundary.due("one -1", Boundary.NSE, () -> x.game(-1, 0, 0, 0));
        Boundary.due("one 2", Boundary.NSE, () -> x.game(2, 0, 0, 0));
        Boundary.due("other -1", Boundary.NSE, () -> x.game(0, -1, 0, 0));
        Boundary.due("other 2", Boundary.NSE, () -> x.game(0, 2, 0, 0));
        Boundary.due("about -1", Boundary.NSE, () -> x.game(0, 1, -1, 0));
        Boundary.due("about 0", 1, () -> x.game(0, 1, 0, 0));
        Boundary.due("about 7", 1, () -> x.game(0, 1, 7, 0));
        Boundary.due("about 8", Boundary.NSE, () -> x.game(0, 1, 8, 0));
        Boundary.due("what -1", Boundary.NSE, () -> x.game(0, 1, 0, -1));
        Boundary.due("what 1", 99, () -> x.game(0, 1, 0, 1));
        Boundary.due("what 2", Boundary.NSE, () -> x.game(0, 1, 0, 2));
        Boundary.due("what of the most int", Boundary.NSE, () -> x.game(0, 1, 0, Boundary.MAX));
    }

    static void promise30_bothAreOneBehindThat() {
        Boundary.leavesAll("one and one", Boundary.IAE, -1, x -> x.game(1, 1, 0, 0));
        Boundary.leavesAll("2 and 2", Boundary.IAE, -1, x -> x.game(2, 2, 7, 1));
        Boundary.leavesAll("3 and 3", Boundary.NSE, -1, x -> x.game(3, 3, 0, 0));
        Boundary.leavesAll("-1 and -1", Boundary.NSE, -1, x -> x.game(-1, -1, 0, 0));
        Boundary.leavesAll("about 8", Boundary.NSE, -1, x -> x.game(1, 1, 8, 0));
        Boundary.leavesAll("what 2", Boundary.NSE, -1, x -> x.game(1, 1, 0, 2));
        Boundary.leavesAll("0 and 1", 1, -1, x -> x.game(0, 1, 0, 0));
    }

    static void promise30_howMuchIsLeft() {
        // Below 3 it gains more by 9 and a stamp: 27 less 20 is 7.
        int[] due = {9, 9, 9, 3, 4, 5, 6, 7, 8, 9, 9, 9};
        for (int left = 0; left < due.length; left++) {
            DancedPacts x = Boundary.told(Boundary.PAIR + "limit " + left + ";step 0 1 3;");
            int d = due[left];
            Boundary.due("the leader, left " + left, 10 * d + 9, () -> x.game(0, 1, 3, 1));
            Boundary.due("the follower, left " + left, 90 + d, () -> x.game(1, 0, 3, 1));
            Boundary.due("one rests, left " + left, 1, () -> x.game(0, 1, 3, 0));
        }
    }

    static void promise30_whatIsDoneBesides() {
        int[] done = {1, 2, 11, 12, 15, 17, 18, 20, 21, 40};
        int[] due = {9, 9, 9, 8, 5, 3, 9, 9, 9, 9};
        for (int i = 0; i < done.length; i++) {
            int k = i;
            DancedPacts x = Boundary.told(Boundary.PAIR + "limit 20;step 2 1 3;");
            x.act(0, 3, done[i]);
            Boundary.due("done " + done[k], 10 * due[k] + 9, () -> x.game(0, 1, 3, 1));
            Boundary.due("done about another", 99, () -> x.game(0, 1, 2, 1));
            Boundary.due("it did nothing by it", done[k], () -> x.done(0, 3, 0));
        }
    }

    static void promise30_bothBound() {
        DancedPacts x = Boundary.told(Boundary.PAIR + "limit 3+lead*2;step 2 1 3;");
        Boundary.due("first", 53, () -> x.game(0, 1, 3, 1));
        Boundary.due("the other way", 35, () -> x.game(1, 0, 3, 1));
        Boundary.due("one rests", 1, () -> x.game(0, 1, 3, 0));
        x.breaks(0);
        Boundary.due("not bound", 99, () -> x.game(0, 1, 3, 1));
    }

    static void promise30_twoThatDanceNotTogether() {
        DancedPacts x = Boundary.told(Boundary.SIX + "dance 0 1 1;step 0 4 3;dance 4 5 1;step 1 7 3;");
        Boundary.due("first", 47, () -> x.game(0, 5, 3, 1));
        Boundary.due("unbound ones", 99, () -> x.game(1, 4, 3, 1));
    }

    static void promise30_theYearAheadOfWorseKnees() {
        Boundary.nowAndThen("game", 39, 99, x -> x.game(0, 1, 3, 1));
    }

    static void promise30_allThatThereCanBe() {
        DancedPacts x = Boundary.told(Boundary.FULL);
        Boundary.due("rest", 1, () -> x.game(4, 5, 7, 0));
        Boundary.due("first", 99, () -> x.game(5, 0, 7, 1));
    }

    // Promise 31: century.

    static void promise31_anotherWhat() {
        Boundary.leavesAll("what -1", Boundary.NSE, -1, x -> x.century(1, 1, -1));
        Boundary.leavesAll("what 3", Boundary.NSE, -1, x -> x.century(1, 1, 3));
        Boundary.leavesAll("what 3, n 41", Boundary.NSE, -1, x -> x.century(1, 41, 3));
        Boundary.leavesAll("what -1, n -1", Boundary.NSE, -1, x -> x.century(1, -1, -1));
        Boundary.leavesAll("what of the most int", Boundary.NSE, -1, x -> x.century(1, 1, Boundary.MAX));
    }

    static void promise31_not0To40() {
        for (int what = 0; what < 3; what++) {
            int w = what;
            Boundary.leavesAll("n -1", Boundary.IAE, -1, x -> x.century(1, -1, w));
            Boundary.leavesAll("n 41", Boundary.IAE, -1, x -> x.century(1, 41, w));
            Boundary.leavesAll("n of the least int", Boundary.IAE, -1, x -> x.century(1, Boundary.MIN, w));
            Boundary.leavesAll("n of the most int", Boundary.IAE, -1, x -> x.century(1, Boundary.MAX, w));
        }
        DancedPacts x = new DancedPacts();
        Boundary.due("n 0", 0, () -> x.century(1, 0, 2));
        Boundary.due("n 1", 1, () -> x.century(1, 1, 2));
        Boundary.due("n 40", 40, () -> x.century(1, 40, 2));
    }

    static void promise31_withoutYearsAsNow() {
        DancedPacts x = Boundary.told(Boundary.PAIR + "valley 0;dance 0 2 1;");
        int[] due = {2, 2, 0};
        for (int what = 0; what < 3; what++) {
            int w = what;
            Boundary.due("what " + w, due[w], () -> x.century(7, 0, w));
        }
        x.breaks(1);
        Boundary.due("one at the end", 1, () -> x.century(7, 0, 0));
        Boundary.due("one, the fewest", 1, () -> x.century(7, 0, 1));
        Boundary.due("no years", 0, () -> x.century(7, 0, 2));
    }

    static void promise31_withoutDances() {
        DancedPacts x = Boundary.told(Boundary.TWO);
        Boundary.due("at the end", 0, () -> x.century(7, 40, 0));
        Boundary.due("the fewest", 0, () -> x.century(7, 40, 1));
        Boundary.due("all, in all years", 40, () -> x.century(7, 40, 2));
    }

    static void promise31_nowIsNoYear() {
        // Broken off now, danced again in the first YEAR: now does not count among the fewest.
        DancedPacts x = Boundary.told(Boundary.PAIR);
        x.breaks(0);
        int seed = seedOf(0);
        Boundary.due("at the end", 1, () -> x.century(seed, 1, 0));
        Boundary.due("the fewest", 1, () -> x.century(seed, 1, 1));
        Boundary.due("all", 1, () -> x.century(seed, 1, 2));
        Boundary.due("it is broken off still", 0, () -> x.count(4));
    }

    static void promise31_eachDraw() {
        DancedPacts x = Boundary.told(Boundary.PAIR);
        int[] due = {1, 0, 1};
        for (int what = 0; what < 3; what++) {
            int seed = seedOf(what);
            int d = due[what];
            Boundary.due("drawn " + what, d, () -> x.century(seed, 1, 0));
        }
        x.breaks(0);
        int[] broken = {1, 0, 0};
        for (int what = 0; what < 3; what++) {
            int seed = seedOf(what);
            int d = broken[what];
            Boundary.due("broken off, drawn " + what, d, () -> x.century(seed, 1, 0));
        }
    }

    /** A seed by which, of one DANCE, the first YEAR draws that. */
    private static int seedOf(int what) {
        int seed = 0;
        while (true) {
            int s = seed * 1103515245 + 12345;
            s = s * 1103515245 + 12345;
            if ((s >>> 16) % 32768 % 3 == what) {
                return seed;
            }
            seed++;
        }
    }

    static void promise31_seedsAtTheEdges() {
        int[] seeds = {0, 1, -1, Boundary.MIN, Boundary.MAX, 12345, -1103515245};
        DancedPacts x = Boundary.told(Boundary.PAIR + "valley 0;dance 0 2 1;dance 1 2 1;");
        for (int seed : seeds) {
            for (int n = 0; n <= 40; n += 8) {
                int[] due = plainly(seed, n);
                for (int what = 0; what < 3; what++) {
                    int w = what;
                    int many = n;
                    Boundary.due("seed " + seed + " n " + n, due[w], () -> x.century(seed, many, w));
                }
            }
        }
    }

    /** Three DANCES that bind whenever they are not broken off, told with longs and words. */
    private static int[] plainly(int seed, int n) {
        long s = seed;
        boolean[] broken = new boolean[3];
        int last = 3;
        int fewest = n == 0 ? 3 : 99;
        int all = 0;
        for (int i = 0; i < n; i++) {
            s = (int) (s * 1103515245L + 12345L);
            int dance = (int) ((s & 0x7fffffffL) / 65536 % 3);
            s = (int) (s * 1103515245L + 12345L);
            int what = (int) ((s & 0x7fffffffL) / 65536 % 3);
            if (what < 2) {
                broken[dance] = what == 1;
            }
            last = 0;
            for (boolean b : broken) {
                last += b ? 0 : 1;
            }
            fewest = Math.min(fewest, last);
            all += last == 3 ? 1 : 0;
        }
        return new int[] {last, fewest, all};
    }

    static void promise31_aYearGoesByFirst() {
        // In the tenth YEAR the step goes none: from the ninth one it is binding in the next.
        DancedPacts x = Boundary.told(Boundary.PAIR + "turn 0 1;step 0 1 0;turn 0 3;");
        x.years(8);
        int nothing = seedOf(2);
        Boundary.due("in the ninth", 0, () -> x.century(nothing, 1, 0));
        x.years(1);
        Boundary.due("in the tenth", 1, () -> x.century(nothing, 1, 0));
        int again = seedOf(0);
        Boundary.due("danced again in the tenth", 0, () -> x.century(again, 1, 0));
    }

    static void promise31_theYearAheadOfWorseKnees() {
        Boundary.nowAndThen("without years", 2, 1, x -> x.century(1, 0, 0));
        Boundary.nowAndThen("the fewest", 2, 1, x -> x.century(1, 0, 1));
    }

    static void promise31_allThatThereCanBe() {
        DancedPacts x = Boundary.told(Boundary.FULL);
        int[] broken = new int[8];
        int s = 77;
        int last = 8;
        for (int i = 0; i < 40; i++) {
            s = s * 1103515245 + 12345;
            int dance = (s >>> 16) % 32768 % 8;
            s = s * 1103515245 + 12345;
            int what = (s >>> 16) % 32768 % 3;
            broken[dance] = what == 2 ? broken[dance] : what;
        }
        for (int b : broken) {
            last -= b;
        }
        int due = last;
        Boundary.due("at the end", due, () -> x.century(77, 40, 0));
    }

    static void promise31_nothingOfItHappens() {
        for (int what = 0; what < 3; what++) {
            int w = what;
            Object due = Boundary.living().century(5, 40, w);
            Boundary.leavesAll("century", due, -1, x -> x.century(5, 40, w));
        }
    }

    static void promise31_beyondTheYear999() {
        DancedPacts x = Boundary.told(Boundary.PAIR);
        for (int i = 0; i < 19; i++) {
            x.years(50);
        }
        x.years(49);
        int nothing = seedOf(2);
        Boundary.due("a year more", 1, () -> x.century(nothing, 1, 2));
        Boundary.due("the year", 999, () -> x.count(3));
    }

    // Promise 32: image.

    static void promise32_inPlaceOfAnother() {
        DancedPacts x = Boundary.told(STEPS);
        x.years(1);
        x.image();
        x.years(2);
        x.image();
        x.years(3);
        Boundary.due("restore", true, x::restore);
        Boundary.due("the latest", 3, () -> x.count(3));
        Boundary.due("restore again", true, x::restore);
        Boundary.due("the same", 3, () -> x.count(3));
    }

    static void promise32_changesNothing() {
        DancedPacts x = Boundary.living();
        x.image();
        Boundary.due("year", 12, () -> x.count(3));
        Boundary.due("acts", 6, () -> x.count(6));
        Boundary.due("seen", 2, () -> x.count(7));
        Boundary.due("tape", 20, () -> x.count(8));
        Boundary.due("texts", 1, () -> x.count(9));
    }

    static void promise32_ofANewObject() {
        DancedPacts x = new DancedPacts();
        x.image();
        x.years(7);
        x.years(0);
        Boundary.due("restore", true, x::restore);
        Boundary.due("year", 0, () -> x.count(3));
        Boundary.due("acts", 0, () -> x.count(6));
        Boundary.due("refused", 0, () -> x.count(10));
    }

    static void promise32_laterActsLeaveItAlone() {
        DancedPacts x = Boundary.told(STEPS);
        x.image();
        x.stumble(0, 0, 9);
        x.act(0, 0, 9);
        x.breaks(0);
        x.see(0, 0, 0, 0, 0);
        Boundary.due("restore", true, x::restore);
        x.stumble(0, 0, 8);
        x.act(0, 0, 8);
        Boundary.due("restore again", true, x::restore);
        Boundary.due("n", 4, () -> x.step(0, 0, 2));
        Boundary.due("done", 0, () -> x.done(0, 0, 0));
        Boundary.due("broken off", 0, () -> x.dance(0, 5));
        Boundary.due("seen", 0, () -> x.count(7));
        Boundary.due("acts", 0, () -> x.count(6));
    }

    // Promise 33: restore.

    static void promise33_none() {
        Boundary.leavesAllOf("restore", false, -1, x -> {
            Boundary.liveWithoutTape(x);
            Boundary.tell(x, STEPS + "valley 0;dance 2 1 1;step 0 1 0;");
            x.years(5);
            x.act(0, 1, 3);
            x.see(0, 0, 0, 1, 1);
        }, x -> x.restore());
        DancedPacts x = new DancedPacts();
        Boundary.due("new", false, x::restore);
        x.image();
        Boundary.due("behind an image", true, x::restore);
    }

    static void promise33_goneByABall() {
        DancedPacts x = Boundary.told(STEPS);
        x.image();
        Boundary.due("ball", 0, () -> Boundary.tell(x, STEPS));
        Boundary.due("restore", false, x::restore);
        x.image();
        Boundary.due("a fault", 1, () -> Boundary.tell(x, "x"));
        Boundary.due("restore behind a fault", true, x::restore);
        x.feed(0, 0, 0, 0, 0);
        Boundary.due("one that throws", Boundary.IAE, () -> x.ball(21));
        Boundary.due("restore behind that", true, x::restore);
        Boundary.due("a ball of nothing", 0, () -> x.ball(0));
        Boundary.due("restore behind that", false, x::restore);
    }

    static void promise33_allThatItKeeps() {
        DancedPacts x = Boundary.living();
        x.image();
        x.years(5);
        x.again(0);
        x.breaks(1);
        x.stumble(0, 0, 9);
        x.stumble(1, 1, 9);
        x.act(0, 1, 9);
        x.act(2, 7, 9);
        x.years(0);
        x.see(0, 0, 2, 0, 0);
        x.see(0, 0, 0, 0, 0);
        Boundary.due("restore", true, x::restore);
        int[] counts = {3, 2, 9, 12, 2, 0, 6, 2, 20, 1, 1, 1};
        for (int what = 0; what < counts.length; what++) {
            int w = what;
            Boundary.due("count " + w, counts[w], () -> x.count(w));
        }
        Boundary.due("since 0", 12, () -> x.dance(0, 4));
        Boundary.due("broken 0", 1, () -> x.dance(0, 5));
        Boundary.due("since 1", 0, () -> x.dance(1, 4));
        Boundary.due("broken 1", 0, () -> x.dance(1, 5));
        Boundary.due("n 0", 3, () -> x.step(0, 0, 2));
        Boundary.due("n 1", 2, () -> x.step(1, 1, 2));
        Boundary.due("done 0", 5, () -> x.done(0, 1, 0));
        Boundary.due("done 1", 99, () -> x.done(1, 2, 0));
        Boundary.due("done 2", 0, () -> x.done(2, 7, 0));
        Boundary.due("limp of 1", 1, () -> x.limp(1, 2));
        Boundary.due("undo act", 5, x::undo);
        Boundary.due("done 1", 0, () -> x.done(1, 2, 0));
        Boundary.due("undo stumble", 4, x::undo);
        Boundary.due("n 0", 2, () -> x.step(0, 0, 2));
        Boundary.due("undo breaks", 3, x::undo);
        Boundary.due("broken 0", 0, () -> x.dance(0, 5));
        Boundary.due("undo again", 2, x::undo);
        Boundary.due("since 1", 12, () -> x.dance(1, 4));
    }

    static void promise33_notTheTapeNorTheFault() {
        DancedPacts x = Boundary.told(STEPS);
        x.image();
        Boundary.due("a fault", 2, () -> Boundary.tell(x, "floor 3;"));
        x.feed(0, 0, 0, 0, 0);
        Boundary.due("restore", true, x::restore);
        Boundary.due("the tape", 20, () -> x.count(8));
        Boundary.due("the fault's place", 6, x::fault);
        Boundary.due("texts refused, as then", 0, () -> x.count(9));
    }

    static void promise33_fortyActsAndEightSeen() {
        DancedPacts x = Boundary.told(STEPS);
        for (int i = 0; i < 41; i++) {
            x.act(1, 7, i + 1);
        }
        for (int i = 0; i < 8; i++) {
            x.see(0, 0, 0, 4, 6);
        }
        x.image();
        for (int i = 0; i < 40; i++) {
            x.years(1);
        }
        x.forget();
        for (int i = 0; i < 8; i++) {
            x.see(0, 5, 1, 0, 0);
        }
        Boundary.due("restore", true, x::restore);
        Boundary.due("seen", 8, () -> x.count(7));
        Boundary.due("as it was", 1, () -> x.limp(0, 2));
        for (int i = 39; i >= 0; i--) {
            int left = i;
            Boundary.due("undo", left, x::undo);
            Boundary.due("done", (left + 1) * (left + 2) / 2, () -> x.done(1, 7, 0));
        }
        Boundary.due("none", -1, x::undo);
    }

    static void promise33_theDanceAndTheStepOfWhatIsSeen() {
        DancedPacts x = Boundary.told(Boundary.PAIR + "step 0 4 0;step 0 2 0;valley 0;dance 0 2 1;step 0 4 0;");
        x.see(0, 0, 0, 4, 6);
        x.image();
        x.forget();
        x.see(1, 0, 0, 4, 6);
        Boundary.due("restore", true, x::restore);
        Boundary.due("of the first dance", 9, () -> x.limp(0, 0));
        Boundary.due("not of the second", 9, () -> x.limp(1, 0));
        Boundary.due("the first by the second step", 10, () -> x.limp(0, 1));
        x.forget();
        x.see(0, 1, 0, 4, 6);
        Boundary.due("restore again", true, x::restore);
        Boundary.due("behind the first step", 1, () -> x.limp(0, 2));
        x.forget();
        x.see(0, 0, 1, 4, 6);
        Boundary.due("restore once more", true, x::restore);
        Boundary.due("of the leader", 1, () -> x.limp(0, 2));
    }

    static void promise33_allThatThereCanBe() {
        DancedPacts x = Boundary.told(Boundary.FULL);
        x.image();
        x.stumble(7, 9, 9);
        x.stumble(7, 0, 8);
        x.breaks(7);
        x.years(1);
        x.again(6);
        x.act(5, 7, 99);
        Boundary.due("restore", true, x::restore);
        Boundary.due("n of the last step", 4, () -> x.step(7, 9, 2));
        Boundary.due("n of its first step", 4, () -> x.step(7, 0, 2));
        Boundary.due("broken off", 0, () -> x.dance(7, 5));
        Boundary.due("since", 0, () -> x.dance(6, 4));
        Boundary.due("done", 0, () -> x.done(5, 7, 0));
        x.stumble(7, 9, 9);
        x.act(5, 7, 1);
        x.image();
        x.undo();
        x.undo();
        Boundary.due("restore again", true, x::restore);
        Boundary.due("n then", 9, () -> x.step(7, 9, 2));
        Boundary.due("done then", 1, () -> x.done(5, 7, 0));
    }

    static void promise33_whatWasUndoneIsThereAgain() {
        DancedPacts x = Boundary.told(STEPS);
        x.years(9);
        x.image();
        x.undo();
        Boundary.due("undone", 0, () -> x.count(3));
        Boundary.due("restore", true, x::restore);
        Boundary.due("again", 9, () -> x.count(3));
        Boundary.due("to be undone again", 0, x::undo);
    }
}
