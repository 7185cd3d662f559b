/** The boundary cases of promises 19 to 26: what mends, hurts, comes later, contradicts, helps. */
public final class BoundariesOfQuestionsTest {
    public static void main(String[] args) throws ReflectiveOperationException {
        Boundary.runAll(BoundariesOfQuestionsTest.class);
    }

    private static void mends(String steps, int many, int first) {
        mends(Boundary.told(Boundary.PAIR + steps), steps, many, first);
    }

    private static void mends(DancedPacts x, String what, int many, int first) {
        Boundary.due("how many mend " + what, many, () -> x.mend(0, 0));
        Boundary.due("which mend " + what, first, () -> x.mend(0, 1));
    }

    // Promise 19: mend.

    static void promise19_noSuchDanceOrWhat() {
        DancedPacts x = Boundary.told(Boundary.PAIR + "turn 0 1;");
        Boundary.due("dance -1", Boundary.NSE, () -> x.mend(-1, 0));
        Boundary.due("dance 1", Boundary.NSE, () -> x.mend(1, 0));
        Boundary.due("dance of the most int", Boundary.NSE, () -> x.mend(Boundary.MAX, 0));
        Boundary.due("what -1", Boundary.NSE, () -> x.mend(0, -1));
        Boundary.due("what 0", 1, () -> x.mend(0, 0));
        Boundary.due("what 1", 0, () -> x.mend(0, 1));
        Boundary.due("what 2", Boundary.NSE, () -> x.mend(0, 2));
    }

    static void promise19_by0() {
        mends("", 0, -1);
        mends("turn 0 4;", 0, -1);
        mends("step 2 5 0;", 0, -1);
    }

    static void promise19_by1() {
        mends("turn 0 1;", 1, 0);
        mends("turn 0 0;turn 0 1;", 1, 3);
        mends("glove 0 0;turn 1 3;", 1, 10);
        mends("step 2 6 0;", 1, 0);
        mends("step 0 9 0;hop 0 9 0;", 1, 0);
    }

    static void promise19_theFirstAndTheLastStep() {
        mends("turn 2 2;" + "glove 0 0;".repeat(8) + "turn 0 0;", 1, 0);
        mends("bow;" + "glove 0 0;".repeat(8) + "turn 2 1;", 1, 92);
    }

    static void promise19_nOf9AndNotOf10() {
        // The LEADER, a row above, must come to the column of the FOLLOWER.
        String steps = "turn 0 3;step 0 1 0;turn 0 1;step 0 8 0;turn 0 1;turn 1 1;";
        mends(Boundary.told("floor 10;" + Boundary.PAIR + steps), "9 to the column", 1, 39);
        mends(Boundary.told("floor 9;" + Boundary.PAIR + steps), "8 to the column", 0, -1);
        DancedPacts x = Boundary.told("floor 11;" + Boundary.PAIR + steps);
        Boundary.due("10 to the column", false, () -> x.mend(0, 0) == 1);
    }

    static void promise19_by2() {
        mends("turn 0 1;turn 1 1;", 2, 10);
        mends("turn 0 1;glove 0 0;turn 1 1;", 2, 20);
        mends("bow;turn 0 1;glove 0 0;turn 1 1;", 2, 1232);
        mends("step 0 9 1;step 0 9 1;step 0 9 1;", 2, 10);
        mends("bow;".repeat(8) + "turn 0 1;turn 1 1;", 2, 8090);
        mends("bow;".repeat(7) + "turn 0 1;turn 1 1;", 2, 7282);
    }

    static void promise19_theFirstCoupleOfStepsThenOfN() {
        // STEPS 2 and 3 would mend it too, by 3 and 3; the first couple counts, by 3 and 2, by 2 and 2.
        mends("turn 0 1;turn 1 1;turn 0 1;turn 1 2;", 2, 312);
        mends("turn 0 1;turn 1 1;turn 0 2;turn 1 2;", 2, 212);
    }

    static void promise19_noneBy2() {
        mends("step 0 9 1;step 0 9 1;step 0 9 1;step 0 9 1;", -1, -1);
        mends("bow;", -1, -1);
        mends("bow;turn 0 1;", -1, -1);
        mends("glove 0 1;bow;glove 1 1;", -1, -1);
    }

    static void promise19_asIfItWereNotBrokenOff() {
        DancedPacts x = Boundary.told(Boundary.PAIR + "turn 0 4;");
        x.breaks(0);
        mends(x, "a broken one", 0, -1);
        x.stumble(0, 0, 5);
        mends(x, "a broken one that stumbled", 1, 0);
    }

    static void promise19_asItIsNow() {
        DancedPacts x = Boundary.told("valley 9;valley 0;dance 0 1 1;turn 0 1;step 0 1 0;turn 0 3;");
        mends(x, "now", 1, 10);
        x.years(1);
        mends(x, "a year later", 0, -1);
        x.again(0);
        mends(x, "danced again", 1, 10);
    }

    static void promise19_theYearAheadOfWorseKnees() {
        Boundary.nowAndThen("how many", 0, 1, x -> x.mend(0, 0));
    }

    static void promise19_tenStepsOfTheEighthDance() {
        DancedPacts x = Boundary.told(Boundary.FULL);
        Boundary.due("none to be mended", 0, () -> x.mend(7, 0));
        x.stumble(7, 9, 5);
        Boundary.due("one", 1, () -> x.mend(7, 0));
        Boundary.due("the first", 3, () -> x.mend(7, 1));
        DancedPacts ten = Boundary.told(Boundary.PAIR + "bow;" + "glove 0 1;".repeat(8) + "turn 0 1;");
        mends(ten, "ten steps", -1, -1);
        String seven = "dance 0 1 1;dance 0 2 1;dance 0 3 1;dance 0 4 1;dance 0 5 1;dance 1 2 1;dance 1 3 1;";
        DancedPacts last = Boundary.told(Boundary.SIX + seven + "dance 1 4 1;bow;" + "glove 0 1;".repeat(8) + "turn 0 1;");
        Boundary.due("ten steps of the last", -1, () -> last.mend(7, 0));
    }

    /** Each answer beside what trying all stumbles by the face itself comes to. */
    static void promise19_asTryingAllStumbles() {
        String[] texts = {
            "floor 7;" + Boundary.PAIR + "turn 0 3;step 0 3 0;turn 0 1;step 0 6 0;turn 0 0;turn 1 0;",
            "floor 19;" + Boundary.PAIR + "turn 0 3;step 0 1 0;turn 0 1;step 0 8 0;step 0 8 0;turn 0 1;turn 1 1;",
            "floor 6;" + Boundary.PAIR + "turn 1 1;hop 1 2 0;turn 1 3;bow;step 2 1 0;turn 0 3;glove 2 1;",
            "floor 5;valley 9;valley 3;dance 0 1 1;step 1 2 0;turn 2 3;step 2 2 0;bow;turn 1 2;step 0 1 0;",
            "floor 9;" + Boundary.PAIR + "step 0 4 0;turn 0 1;step 0 5 0;turn 1 1;step 1 4 0;",
            "floor 8;" + Boundary.PAIR + "turn 0 1;step 2 3 0;turn 0 2;hop 0 9 1;turn 1 3;step 1 9 0;",
        };
        for (String text : texts) {
            int[] due = tryAll(text);
            mends(Boundary.told(text), text, due[0], due[1]);
        }
    }

    private static int[] tryAll(String text) {
        if (bindsWith(text)) {
            return new int[] {0, -1};
        }
        int steps = Boundary.told(text).dance(0, 3);
        for (int one = 0; one < 10 * steps; one++) {
            if (bindsWith(text, one)) {
                return new int[] {1, one};
            }
        }
        for (int i = 0; i < steps; i++) {
            for (int j = i + 1; j < steps; j++) {
                for (int n = 0; n < 100; n++) {
                    if (bindsWith(text, 10 * i + n / 10, 10 * j + n % 10)) {
                        return new int[] {2, 100 * (10 * i + n / 10) + 10 * j + n % 10};
                    }
                }
            }
        }
        return new int[] {-1, -1};
    }

    private static boolean bindsWith(String text, int... stumbles) {
        DancedPacts x = Boundary.told(text);
        for (int s : stumbles) {
            if (x.stumble(0, s / 10, s % 10) == s % 10) {
                return false;
            }
        }
        return x.count(10) == 0 && x.dance(0, 6) == 1;
    }

    static void promise19_askingChangesNothing() {
        Boundary.leavesAll("mend what 0", 0, -1, x -> x.mend(0, 0));
        Boundary.leavesAllOf("mend by 2", 2, -1, x -> Boundary.tell(x, Boundary.PAIR + "turn 0 1;turn 1 1;"),
                x -> x.mend(0, 0));
        Boundary.leavesAllOf("mend by none", -1, -1, x -> Boundary.tell(x, Boundary.PAIR + "step 0 9 1;".repeat(4)),
                x -> x.mend(0, 1));
    }

    // Promise 20: costly.

    static void promise20_noSuchDance() {
        DancedPacts x = Boundary.told(Boundary.PAIR + "turn 0 0;");
        Boundary.due("dance -1", Boundary.NSE, () -> x.costly(-1));
        Boundary.due("dance 0", 1, () -> x.costly(0));
        Boundary.due("dance 1", Boundary.NSE, () -> x.costly(1));
        Boundary.due("dance of the most int", Boundary.NSE, () -> x.costly(Boundary.MAX));
    }

    private static void costs(String text, int due) {
        DancedPacts x = Boundary.told(text);
        Boundary.due("costly of " + text, due, () -> x.costly(0));
    }

    static void promise20_nothingBelow0() {
        costs(Boundary.PAIR + "turn 0 0;", 1);
        costs(Boundary.PAIR + "turn 0 1;turn 0 3;", 0);
        costs(Boundary.PAIR + "step 0 0 0;", -1);
    }

    static void promise20_nothingAbove9() {
        costs("floor 11;" + Boundary.PAIR + "step 0 9 0;", -1);
        costs("floor 10;" + Boundary.PAIR + "step 0 8 0;", 9);
        costs(Boundary.PAIR + "step 0 9 0;step 1 1 0;", 12);
        costs(Boundary.PAIR + "turn 0 9;turn 0 3;", 8);
    }

    static void promise20_lessAheadOfMore() {
        costs(Boundary.PAIR + "turn 0 4;", 3);
        costs(Boundary.PAIR + "step 2 5 0;", 6);
    }

    static void promise20_theFirstSuchStep() {
        costs(Boundary.PAIR + "step 0 1 0;turn 0 4;turn 1 4;", 13);
        costs(Boundary.PAIR + "glove 0 0;".repeat(9) + "turn 0 4;", 93);
        costs(Boundary.PAIR + "bow;bow;glove 0 1;", -1);
        costs(Boundary.PAIR, -1);
    }

    static void promise20_notBinding() {
        costs(Boundary.PAIR + "turn 0 1;", -1);
        DancedPacts x = Boundary.told(Boundary.PAIR + "turn 0 4;");
        Boundary.due("binding", 3, () -> x.costly(0));
        x.breaks(0);
        Boundary.due("broken off", -1, () -> x.costly(0));
        x.again(0);
        Boundary.due("danced again", 3, () -> x.costly(0));
    }

    static void promise20_eachStepByItself() {
        // 5 and 5, 4 and 6 can be: 5 and 6 could not.
        costs(Boundary.PAIR + "step 0 4 0;step 0 5 0;", -1);
        costs(Boundary.PAIR + "step 0 5 0;step 0 5 0;", 6);
    }

    static void promise20_theYearAheadOfWorseKnees() {
        Boundary.nowAndThen("costly", 2, -1, x -> x.costly(0));
        DancedPacts x = Boundary.told("valley 9;valley 0;floor 7;dance 0 1 1;step 0 5 0;");
        Boundary.due("one more now", 6, () -> x.costly(0));
        x.years(1);
        Boundary.due("one more a year later", -1, () -> x.costly(0));
    }

    static void promise20_tenStepsOfTheEighthDance() {
        DancedPacts x = Boundary.told(Boundary.FULL);
        Boundary.due("turns", 3, () -> x.costly(7));
        Boundary.due("bows", -1, () -> x.costly(0));
        String seven = "dance 0 1 1;dance 0 2 1;dance 0 3 1;dance 0 4 1;dance 0 5 1;dance 1 2 1;dance 1 3 1;";
        DancedPacts none = Boundary.told(Boundary.SIX + seven + "dance 1 4 1;" + "step 0 0 0;".repeat(10));
        Boundary.due("steps of none", -1, () -> none.costly(7));
    }

    static void promise20_askingChangesNothing() {
        Boundary.leavesAllOf("costly", 13, -1,
                x -> Boundary.tell(x, Boundary.PAIR + "step 0 1 0;turn 0 4;turn 1 4;"), x -> x.costly(0));
    }

    // Promise 21: later.

    static void promise21_not0To99() {
        Boundary.leavesAll("later(-1)", Boundary.IAE, -1, x -> x.later(-1));
        Boundary.leavesAll("later(100)", Boundary.IAE, -1, x -> x.later(100));
        Boundary.leavesAll("later of the least int", Boundary.IAE, -1, x -> x.later(Boundary.MIN));
        Boundary.leavesAll("later of the most int", Boundary.IAE, -1, x -> x.later(Boundary.MAX));
        Boundary.leavesAll("later(0)", 1, -1, x -> x.later(0));
        Boundary.leavesAll("later(99)", 1, -1, x -> x.later(99));
    }

    static void promise21_theYearInWhichKneesGetWorse() {
        DancedPacts x = Boundary.told(Boundary.PAIR + "turn 0 1;step 0 1 0;turn 0 3;");
        Boundary.due("in 9", 0, () -> x.later(9));
        Boundary.due("in 10", 1, () -> x.later(10));
        x.years(3);
        Boundary.due("in 6", 0, () -> x.later(6));
        Boundary.due("in 7", 1, () -> x.later(7));
        x.again(0);
        Boundary.due("danced again, in 9", 0, () -> x.later(9));
        Boundary.due("danced again, in 10", 1, () -> x.later(10));
        DancedPacts y = Boundary.told("floor 20;valley 1;valley 0;dance 0 1 1;turn 0 1;step 0 9 0;turn 0 3;");
        Boundary.due("in 88", 0, () -> y.later(88));
        Boundary.due("in 89", 1, () -> y.later(89));
        Boundary.due("in 99", 1, () -> y.later(99));
    }

    static void promise21_theYearAheadOfWorseKnees() {
        Boundary.nowAndThen("later(0)", 2, 1, x -> x.later(0));
        Boundary.nowAndThen("later(1)", 1, 1, x -> x.later(1));
    }

    static void promise21_noneAndAllDances() {
        DancedPacts none = Boundary.told(Boundary.TWO);
        Boundary.due("none", 0, () -> none.later(50));
        DancedPacts x = Boundary.told(Boundary.SIX + "dance 0 1 1;dance 0 2 1;dance 0 3 1;dance 0 4 1;dance 0 5 1;"
                + "dance 1 2 1;dance 1 3 1;dance 1 4 1;turn 0 1;step 0 1 0;turn 0 3;");
        Boundary.due("seven now", 7, () -> x.later(0));
        Boundary.due("eight in 10", 8, () -> x.later(10));
        x.breaks(0);
        Boundary.due("broken off stays so", 7, () -> x.later(10));
    }

    static void promise21_beyondTheYear999() {
        DancedPacts x = Boundary.told(Boundary.PAIR + "turn 0 1;step 0 9 0;turn 0 3;");
        for (int i = 0; i < 19; i++) {
            x.years(50);
        }
        x.years(49);
        x.again(0);
        Boundary.due("in 89", 0, () -> x.later(89));
        Boundary.due("in 90", 1, () -> x.later(90));
        Boundary.due("the year", 999, () -> x.count(3));
    }

    // Promise 22: inTime.

    static void promise22_not1To4() {
        Boundary.leavesAll("time 0", Boundary.IAE, -1, x -> x.inTime(1, 0));
        Boundary.leavesAll("time 5", Boundary.IAE, -1, x -> x.inTime(1, 5));
        Boundary.leavesAll("time of the least int", Boundary.IAE, -1, x -> x.inTime(1, Boundary.MIN));
        Boundary.leavesAll("time of the most int", Boundary.IAE, -1, x -> x.inTime(1, Boundary.MAX));
        Boundary.leavesAll("time 1", 0, -1, x -> x.inTime(1, 1));
        Boundary.leavesAll("time 4", 2, -1, x -> x.inTime(1, 4));
    }

    static void promise22_notOfADanceThatIsNotBinding() {
        DancedPacts x = Boundary.told(Boundary.PAIR + "step 0 1 0;turn 0 1;");
        for (int time = 1; time <= 4; time++) {
            int t = time;
            Boundary.due("time " + t, 0, () -> x.inTime(0, t));
        }
        Boundary.due("time 0", Boundary.IAE, () -> x.inTime(0, 0));
        Boundary.due("time 5", Boundary.IAE, () -> x.inTime(0, 5));
        x.stumble(0, 1, 0);
        Boundary.due("binding", 1, () -> x.inTime(0, 1));
        x.breaks(0);
        Boundary.due("broken off", 0, () -> x.inTime(0, 1));
    }

    static void promise22_noSuchDanceAheadOfTime() {
        DancedPacts x = Boundary.told(Boundary.PAIR);
        Boundary.due("dance -1", Boundary.NSE, () -> x.inTime(-1, 0));
        Boundary.due("dance 1", Boundary.NSE, () -> x.inTime(1, 5));
        Boundary.due("dance 1, time 1", Boundary.NSE, () -> x.inTime(1, 1));
        Boundary.due("dance 0", 0, () -> x.inTime(0, 1));
    }

    static void promise22_theTimeThatItIs() {
        for (int time = 1; time <= 4; time++) {
            DancedPacts x = Boundary.told(Boundary.TWO + "dance 0 1 " + time + ";step 2 1 0;hop 1 2 0;step 0 0 0;");
            for (int other = 1; other <= 4; other++) {
                int o = other;
                int due = other == time ? 0 : 2;
                Boundary.due("from " + time + " to " + o, due, () -> x.inTime(0, o));
            }
        }
    }

    static void promise22_limitsKeptAlikeAreNotOthers() {
        DancedPacts x = Boundary.told(Boundary.PAIR + "step 0 1 0;limit time*50;");
        Boundary.due("50 is not 99", 1, () -> x.inTime(0, 1));
        Boundary.due("150 is 99 too", 0, () -> x.inTime(0, 3));
        DancedPacts y = Boundary.told(Boundary.PAIR + "step 0 1 0;limit 2-time;");
        Boundary.due("1 is not 0", 1, () -> y.inTime(0, 1));
        Boundary.due("below 0 is 0 too", 0, () -> y.inTime(0, 4));
    }

    static void promise22_theYearAheadOfWorseKnees() {
        Boundary.nowAndThen("inTime", 2, 0, x -> x.inTime(0, 1));
    }

    static void promise22_tenStepsOfTheEighthDance() {
        DancedPacts x = Boundary.told(Boundary.FULL);
        Boundary.due("no clauses", 0, () -> x.inTime(7, 1));
        String seven = "dance 0 1 1;dance 0 2 1;dance 0 3 1;dance 0 4 1;dance 0 5 1;dance 1 2 1;dance 1 3 1;";
        DancedPacts ten = Boundary.told(Boundary.SIX + seven + "dance 1 4 1;" + "step 0 1 0;".repeat(10));
        Boundary.due("ten clauses", 10, () -> ten.inTime(7, 2));
    }

    static void promise22_forSomeWhomTheyBind() {
        String rule = "limit lead*time+5;";
        DancedPacts both = Boundary.told(Boundary.PAIR + "step 2 1 0;" + rule);
        Boundary.due("for the leader", 1, () -> both.inTime(0, 3));
        DancedPacts gloved = Boundary.told(Boundary.PAIR + "step 2 1 0;glove 0 0;" + rule);
        Boundary.due("for the follower", 0, () -> gloved.inTime(0, 3));
        DancedPacts follower = Boundary.told(Boundary.PAIR + "step 1 1 0;" + rule);
        Boundary.due("the follower's own", 0, () -> follower.inTime(0, 3));
        DancedPacts none = Boundary.told(Boundary.PAIR + "step 2 1 0;glove 2 0;");
        Boundary.due("nobody", 0, () -> none.inTime(0, 3));
        DancedPacts onlyFollower = Boundary.told(Boundary.PAIR + "step 2 1 0;limit (1-lead)*time+5;");
        Boundary.due("for the follower alone", 1, () -> onlyFollower.inTime(0, 3));
    }

    // Promise 23: apart.

    static void promise23_noSuchDance() {
        DancedPacts x = Boundary.told(Boundary.PAIR);
        Boundary.due("dance -1", Boundary.NSE, () -> x.apart(-1));
        Boundary.due("dance 0", 11, () -> x.apart(0));
        Boundary.due("dance 1", Boundary.NSE, () -> x.apart(1));
        Boundary.due("dance of the least int", Boundary.NSE, () -> x.apart(Boundary.MIN));
    }

    static void promise23_theLeastAndTheMost() {
        DancedPacts floor4 = Boundary.told("floor 4;" + Boundary.PAIR);
        Boundary.due("floor 4", 3, () -> floor4.apart(0));
        DancedPacts floor20 = Boundary.told("floor 20;" + Boundary.PAIR);
        Boundary.due("floor 20", 19, () -> floor20.apart(0));
        DancedPacts beside = Boundary.told(Boundary.PAIR + "step 2 5 0;");
        Boundary.due("beside", 1, () -> beside.apart(0));
        DancedPacts corners = Boundary.told("floor 20;" + Boundary.PAIR + "turn 0 3;step 0 9 0;step 0 1 0;turn 1 3;step 1 9 0;");
        Boundary.due("corners", 38, () -> corners.apart(0));
        DancedPacts changed = Boundary.told("floor 20;" + Boundary.PAIR + "turn 0 3;step 0 9 0;turn 1 3;step 1 9 0;bow;");
        Boundary.due("the other way round", 37, () -> changed.apart(0));
    }

    static void promise23_asFarAsItCanBeDanced() {
        DancedPacts x = Boundary.told(Boundary.PAIR + "step 0 3 0;step 2 4 0;step 1 1 0;");
        Boundary.due("ahead of a step of both", 8, () -> x.apart(0));
        x.stumble(0, 1, 3);
        Boundary.due("all of it", 1, () -> x.apart(0));
    }

    static void promise23_aheadOfAStepUpOrDown() {
        DancedPacts leader = Boundary.told(Boundary.PAIR + "turn 0 1;step 0 2 0;step 0 4 0;");
        Boundary.due("the leader has not gone", 13, () -> leader.apart(0));
        DancedPacts follower = Boundary.told(Boundary.PAIR + "turn 1 1;step 1 2 0;step 1 5 0;");
        Boundary.due("the follower has not gone", 13, () -> follower.apart(0));
        DancedPacts both = Boundary.told(Boundary.PAIR + "turn 0 1;turn 1 3;step 1 1 0;step 2 5 0;");
        Boundary.due("neither has gone", 12, () -> both.apart(0));
    }

    static void promise23_theYearAheadOfWorseKnees() {
        Boundary.nowAndThen("apart", 10, 11, x -> x.apart(0));
    }

    static void promise23_tenStepsOfTheEighthDance() {
        DancedPacts x = Boundary.told(Boundary.FULL);
        Boundary.due("apart", 11, () -> x.apart(7));
    }

    static void promise23_brokenOffToo() {
        DancedPacts x = Boundary.told(Boundary.PAIR + "step 0 3 0;");
        x.breaks(0);
        Boundary.due("broken off", 8, () -> x.apart(0));
    }

    // Promise 24: against.

    private static void contradicts(String text, int couples, int fewest) {
        contradicts(Boundary.told(Boundary.SIX + text), text, couples, fewest);
    }

    private static void contradicts(DancedPacts x, String what, int couples, int fewest) {
        Boundary.due("couples of " + what, couples, () -> x.against(0));
        Boundary.due("fewest of " + what, fewest, () -> x.against(1));
    }

    static void promise24_anotherWhat() {
        DancedPacts x = Boundary.told(Boundary.PAIR);
        Boundary.due("what -1", Boundary.NSE, () -> x.against(-1));
        Boundary.due("what 0", 0, () -> x.against(0));
        Boundary.due("what 1", 0, () -> x.against(1));
        Boundary.due("what 2", Boundary.NSE, () -> x.against(2));
        Boundary.due("what of the most int", Boundary.NSE, () -> x.against(Boundary.MAX));
    }

    static void promise24_noneAndOne() {
        contradicts("", 0, 0);
        contradicts("dance 0 1 1;step 0 1 0;step 0 2 0;", 0, 0);
        contradicts("dance 0 1 1;step 0 1 0;dance 0 2 1;step 0 1 0;", 0, 0);
        contradicts("dance 0 1 1;step 0 1 0;dance 0 2 1;step 0 2 0;", 1, 1);
    }

    static void promise24_leastLimits() {
        contradicts("dance 0 1 1;step 0 1 0;step 0 3 0;dance 0 2 1;step 0 2 0;step 0 1 0;", 0, 0);
        contradicts("dance 0 1 1;step 0 2 0;step 0 3 0;dance 0 2 1;step 0 2 0;step 0 1 0;", 1, 1);
        contradicts("dance 0 1 1;step 0 2 0;dance 0 2 2;step 0 1 0;", 0, 0);
    }

    static void promise24_theSameValleyAboutTheSame() {
        contradicts("dance 0 1 1;step 0 1 0;dance 0 2 1;step 0 2 7;", 0, 0);
        contradicts("dance 0 1 1;step 0 1 7;dance 0 2 1;step 0 2 7;", 1, 1);
        contradicts("dance 0 1 1;step 1 1 0;dance 0 2 1;step 0 2 0;", 0, 0);
        contradicts("dance 0 1 1;step 0 1 0;dance 2 3 1;step 0 2 0;", 0, 0);
        contradicts("dance 1 0 1;step 1 1 0;dance 2 0 1;step 1 2 0;", 1, 1);
        contradicts("dance 0 1 1;step 0 1 0;dance 2 0 1;step 1 2 0;", 1, 1);
        contradicts("dance 1 0 1;step 1 1 0;dance 0 2 1;hop 0 2 0;", 1, 1);
    }

    static void promise24_aCoupleCountsOnce() {
        contradicts("dance 0 1 1;step 0 1 0;step 0 1 1;step 0 1 2;dance 0 2 1;step 0 2 0;step 0 2 1;step 0 2 2;", 1, 1);
    }

    static void promise24_onlyWhatBinds() {
        contradicts("dance 0 1 1;step 0 1 0;dance 0 2 1;step 0 2 0;glove 0 0;", 0, 0);
        contradicts("dance 0 1 1;step 0 1 0;dance 0 2 1;step 0 2 0;turn 0 1;", 0, 0);
        contradicts("dance 0 1 1;step 0 1 0;dance 0 2 1;step 0 0 0;", 0, 0);
        DancedPacts x = Boundary.told(Boundary.SIX + "dance 0 1 1;step 0 1 0;dance 0 2 1;step 0 2 0;");
        contradicts(x, "both", 1, 1);
        x.breaks(0);
        contradicts(x, "one broken off", 0, 0);
    }

    static void promise24_notWhatTheDanceBesideBinds() {
        // VALLEY 1 follows in DANCE 0 and leads in 2; DANCE 1 binds another one, not 1, to another LIMIT.
        contradicts("dance 0 1 1;dance 2 3 1;step 0 1 5;dance 1 3 1;step 0 2 5;", 0, 0);
        contradicts("dance 1 0 1;dance 2 3 1;step 1 1 5;dance 1 3 1;step 0 2 5;", 0, 0);
    }

    static void promise24_theFewestThenTheLeastAsBits() {
        // The last one contradicts both others: it alone, not the first two.
        contradicts("dance 0 1 1;step 0 1 0;dance 0 2 1;step 0 1 0;dance 0 3 1;step 0 2 0;", 2, 4);
        // A row of three couples: two are needed, the least as bits of those.
        contradicts("dance 0 1 1;step 2 1 0;dance 1 2 1;step 2 2 0;dance 2 3 1;step 2 1 0;dance 3 4 1;step 2 2 0;", 3, 5);
        contradicts("dance 0 1 1;step 0 1 0;dance 0 2 1;step 0 2 0;dance 0 3 1;step 0 3 0;", 3, 3);
    }

    static void promise24_allButOne() {
        contradicts("dance 0 1 1;step 0 1 0;dance 0 2 1;step 0 2 0;dance 0 3 1;step 0 3 0;dance 0 4 1;step 0 4 0;"
                + "dance 0 5 1;step 0 5 0;", 10, 15);
    }

    static void promise24_theLastOfEight() {
        contradicts("dance 0 1 1;step 0 1 0;dance 0 2 1;step 0 1 0;dance 0 3 1;step 0 1 0;dance 0 4 1;step 0 1 0;"
                + "dance 1 2 1;dance 1 3 1;dance 1 4 1;dance 0 5 1;step 0 2 0;", 4, 128);
    }

    static void promise24_theYearAheadOfWorseKnees() {
        Boundary.nowAndThen("couples", 1, 0, x -> x.against(0));
        Boundary.nowAndThen("fewest", 1, 0, x -> x.against(1));
    }

    static void promise24_allThatThereCanBe() {
        contradicts(Boundary.told(Boundary.FULL), "all without clauses", 0, 0);
    }

    static void promise24_askingBreaksNothing() {
        Boundary.leavesAllOf("against", 1, -1,
                x -> Boundary.tell(x, Boundary.SIX + "dance 0 1 1;step 0 1 0;dance 0 2 1;step 0 2 0;"),
                x -> x.against(1));
    }

    // Promise 25: help.

    private static void helps(String text, int... due) {
        DancedPacts x = Boundary.told(Boundary.SIX + text);
        for (int valley = 0; valley < due.length; valley++) {
            int v = valley;
            Boundary.due("help " + v + " by " + text, due[v], () -> x.help(v));
        }
    }

    static void promise25_noSuchValley() {
        DancedPacts x = Boundary.told(Boundary.SIX);
        Boundary.due("-1", Boundary.NSE, () -> x.help(-1));
        Boundary.due("0", 0, () -> x.help(0));
        Boundary.due("5", 0, () -> x.help(5));
        Boundary.due("6", Boundary.NSE, () -> x.help(6));
        Boundary.due("the most int", Boundary.NSE, () -> x.help(Boundary.MAX));
        DancedPacts y = Boundary.told(Boundary.TWO);
        Boundary.due("1", 0, () -> y.help(1));
        Boundary.due("2", Boundary.NSE, () -> y.help(2));
    }

    static void promise25_waltzesAlone() {
        helps("dance 0 1 1;", 0, 0);
        helps("dance 0 1 2;", 0, 0);
        helps("dance 0 1 3;", 2, 1);
        helps("dance 0 1 4;", 0, 0);
    }

    static void promise25_bindingOnes() {
        helps("dance 0 1 3;turn 0 1;", 0, 0);
        DancedPacts x = Boundary.told(Boundary.SIX + "dance 0 1 3;");
        x.breaks(0);
        Boundary.due("broken off", 0, () -> x.help(0));
        x.again(0);
        Boundary.due("danced again", 2, () -> x.help(0));
    }

    static void promise25_oneBehindTheOther() {
        helps("dance 0 1 3;dance 1 2 3;dance 2 3 3;dance 3 4 3;dance 4 5 3;", 62, 61, 59, 55, 47, 31);
        helps("dance 4 5 3;dance 3 4 3;dance 2 3 3;dance 1 2 3;dance 0 1 3;", 62, 61, 59, 55, 47, 31);
        helps("dance 1 0 3;dance 2 1 3;dance 3 2 2;dance 3 4 3;", 6, 5, 3, 16, 8, 0);
    }

    static void promise25_theYearAheadOfWorseKnees() {
        Boundary.nowAndThen("help", 2, 0, x -> x.help(0));
    }

    static void promise25_allThatThereCanBe() {
        DancedPacts x = Boundary.told(Boundary.FULL);
        for (int valley = 0; valley < 6; valley++) {
            int v = valley;
            Boundary.due("help " + v, 63 - (1 << v), () -> x.help(v));
        }
    }

    static void promise25_notItselfByARound() {
        helps("dance 0 1 3;dance 1 2 3;dance 2 0 3;", 6, 5, 3, 0);
    }

    // Promise 26: evenings.

    private static void dances(String text, int evenings, int most, int which) {
        DancedPacts x = Boundary.told(Boundary.SIX + text);
        Boundary.due("evenings of " + text, evenings, () -> x.evenings(0));
        Boundary.due("at once of " + text, most, () -> x.evenings(1));
        Boundary.due("which at once of " + text, which, () -> x.evenings(2));
    }

    static void promise26_anotherWhat() {
        DancedPacts x = Boundary.told(Boundary.PAIR);
        Boundary.due("what -1", Boundary.NSE, () -> x.evenings(-1));
        Boundary.due("what 0", 1, () -> x.evenings(0));
        Boundary.due("what 2", 1, () -> x.evenings(2));
        Boundary.due("what 3", Boundary.NSE, () -> x.evenings(3));
        Boundary.due("what of the most int", Boundary.NSE, () -> x.evenings(Boundary.MAX));
    }

    static void promise26_noneAndOne() {
        dances("", 0, 0, 0);
        dances("dance 0 1 1;", 1, 1, 1);
    }

    static void promise26_allOnOne() {
        dances("dance 0 1 1;dance 2 3 1;", 1, 2, 3);
        dances("dance 0 1 1;dance 2 3 1;dance 4 5 1;", 1, 3, 7);
    }

    static void promise26_noneTogether() {
        dances("dance 0 1 1;dance 0 2 1;", 2, 1, 1);
        dances("dance 0 1 1;dance 2 0 1;", 2, 1, 1);
        dances("dance 1 0 1;dance 2 0 1;", 2, 1, 1);
        dances("dance 0 1 1;dance 1 2 1;dance 2 0 1;", 3, 1, 1);
        dances("dance 0 1 1;dance 0 2 1;dance 0 3 1;dance 0 4 1;dance 0 5 1;", 5, 1, 1);
    }

    static void promise26_theLeastAsBitsOfLikeOnes() {
        dances("dance 0 1 1;dance 1 2 1;dance 2 3 1;dance 3 4 1;", 2, 2, 5);
        dances("dance 0 1 1;dance 0 2 1;dance 1 2 1;dance 3 4 1;dance 3 5 1;", 3, 2, 9);
        dances("dance 0 1 1;dance 0 2 1;dance 0 3 1;dance 1 2 1;dance 1 3 1;dance 2 3 1;", 3, 2, 12);
    }

    static void promise26_moreAheadOfTheLeastAsBits() {
        dances("dance 1 2 1;dance 0 1 1;dance 2 3 1;", 2, 2, 6);
    }

    static void promise26_ofOddRounds() {
        dances("dance 0 1 1;dance 1 2 1;dance 2 3 1;dance 3 4 1;dance 4 0 1;", 3, 2, 5);
        dances("dance 0 1 1;dance 1 2 1;dance 2 3 1;dance 3 4 1;dance 4 5 1;dance 5 0 1;", 2, 3, 21);
    }

    static void promise26_eightDances() {
        dances("dance 0 1 1;dance 0 2 1;dance 0 3 1;dance 0 4 1;dance 0 5 1;dance 1 2 1;dance 3 4 1;dance 1 3 1;", 5, 3, 112);
        dances("dance 0 1 1;dance 1 2 1;dance 2 3 1;dance 3 4 1;dance 4 5 1;dance 5 0 1;dance 0 3 1;dance 1 4 1;", 3, 3, 21);
    }

    static void promise26_allThatThereCanBe() {
        DancedPacts x = Boundary.told(Boundary.FULL);
        Boundary.due("evenings", 5, () -> x.evenings(0));
        Boundary.due("at once", 2, () -> x.evenings(1));
        Boundary.due("which", 36, () -> x.evenings(2));
    }

    static void promise26_allDancesBindingOrNot() {
        dances("dance 0 1 1;turn 0 1;dance 0 2 1;step 0 9 0;step 0 9 0;", 2, 1, 1);
        DancedPacts x = Boundary.told(Boundary.SIX + "dance 0 1 1;dance 0 2 1;");
        x.breaks(0);
        Boundary.due("evenings", 2, () -> x.evenings(0));
        Boundary.due("at once", 1, () -> x.evenings(2));
    }
}
