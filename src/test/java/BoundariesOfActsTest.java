/** The boundary cases of promises 13 to 18: what goes by, is danced, broken, stumbled, done, undone. */
public final class BoundariesOfActsTest {
    private static final String ALL = Boundary.PAIR + "step 0 1 3;turn 1 4;hop 1 2 4;glove 0 5;bow;bow;";

    public static void main(String[] args) throws ReflectiveOperationException {
        Boundary.runAll(BoundariesOfActsTest.class);
    }

    private static void yearsTo(DancedPacts x, int year) {
        int left = year - x.count(3);
        while (left > 0) {
            int many = Math.min(50, left);
            x.years(many);
            left -= many;
        }
    }

    /** An ACT that is taken: one more is kept, and none is refused. */
    private static void takes(String what, Object want, Boundary.Ask act) {
        DancedPacts x = Boundary.living();
        Boundary.due(what, want, () -> act.of(x));
        Boundary.due("one act more, " + what, 7, () -> x.count(6));
        Boundary.due("none refused, " + what, 1, () -> x.count(10));
        Boundary.due("undone, " + what, 6, x::undo);
    }

    // Promise 13: years.

    static void promise13_below1() {
        Boundary.leavesAll("years(0)", -1, 1, x -> x.years(0));
        Boundary.leavesAll("years(-1)", -1, 1, x -> x.years(-1));
        Boundary.leavesAll("years of the least int", -1, 1, x -> x.years(Boundary.MIN));
        takes("years(1)", 13, x -> x.years(1));
    }

    static void promise13_above50() {
        takes("years(50)", 62, x -> x.years(50));
        Boundary.leavesAll("years(51)", -1, 1, x -> x.years(51));
        Boundary.leavesAll("years of the most int", -1, 1, x -> x.years(Boundary.MAX));
    }

    static void promise13_above999() {
        DancedPacts x = Boundary.told(Boundary.PAIR);
        yearsTo(x, 949);
        Boundary.due("949 and 50", 999, () -> x.years(50));
        Boundary.due("999 and 1", -1, () -> x.years(1));
        Boundary.due("999 and 50", -1, () -> x.years(50));
        Boundary.due("the year stays", 999, () -> x.count(3));
        Boundary.due("refused", 2, () -> x.count(10));
        Boundary.due("acts", 20, () -> x.count(6));
        DancedPacts y = Boundary.told(Boundary.PAIR);
        yearsTo(y, 950);
        Boundary.due("950 and 50", -1, () -> y.years(50));
        Boundary.due("950 and 49", 999, () -> y.years(49));
        DancedPacts z = Boundary.told(Boundary.PAIR);
        yearsTo(z, 998);
        Boundary.due("998 and 2", -1, () -> z.years(2));
        Boundary.due("998 and 1", 999, () -> z.years(1));
    }

    static void promise13_tooLateLeavesAll() {
        Boundary.leavesAllOf("years(1)", -1, 1, x -> {
            Boundary.live(x);
            yearsTo(x, 999);
        }, x -> x.years(1));
    }

    static void promise13_roomAgainWhenUndone() {
        DancedPacts x = Boundary.told(Boundary.PAIR);
        yearsTo(x, 999);
        Boundary.due("refused", -1, () -> x.years(1));
        x.undo();
        Boundary.due("the year", 950, () -> x.count(3));
        Boundary.due("years(49)", 999, () -> x.years(49));
    }

    static void promise13_withoutABall() {
        DancedPacts x = new DancedPacts();
        Boundary.due("years(50)", 50, () -> x.years(50));
        Boundary.due("acts", 1, () -> x.count(6));
        Boundary.due("undo", 0, x::undo);
        Boundary.due("year", 0, () -> x.count(3));
    }

    // Promise 14: again.

    static void promise14_noSuchDance() {
        Boundary.leavesAll("again(-1)", Boundary.NSE, -1, x -> x.again(-1));
        Boundary.leavesAll("again(2)", Boundary.NSE, -1, x -> x.again(2));
        Boundary.leavesAll("again of the most int", Boundary.NSE, -1, x -> x.again(Boundary.MAX));
        Boundary.leavesAll("again of the least int", Boundary.NSE, -1, x -> x.again(Boundary.MIN));
        takes("again(0)", 12, x -> x.again(0));
        takes("again(1)", 0, x -> x.again(1));
    }

    static void promise14_howManyYearsItWas() {
        DancedPacts x = Boundary.told(Boundary.PAIR);
        Boundary.due("none", 0, () -> x.again(0));
        x.years(1);
        Boundary.due("one", 1, () -> x.again(0));
        Boundary.due("none since", 0, () -> x.again(0));
        yearsTo(x, 999);
        Boundary.due("the most", 998, () -> x.again(0));
        Boundary.due("acts of no years are acts", 25, () -> x.count(6));
    }

    static void promise14_thatDanceAlone() {
        DancedPacts x = Boundary.told(Boundary.PAIR + "valley 0;dance 0 2 1;");
        x.years(7);
        x.breaks(0);
        x.breaks(1);
        x.again(1);
        Boundary.due("years since 0", 7, () -> x.dance(0, 4));
        Boundary.due("broken off 0", 1, () -> x.dance(0, 5));
        Boundary.due("years since 1", 0, () -> x.dance(1, 4));
        Boundary.due("broken off 1", 0, () -> x.dance(1, 5));
    }

    // Promise 15: breaks.

    static void promise15_noSuchDance() {
        Boundary.leavesAll("breaks(-1)", Boundary.NSE, -1, x -> x.breaks(-1));
        Boundary.leavesAll("breaks(2)", Boundary.NSE, -1, x -> x.breaks(2));
        Boundary.leavesAll("breaks of the most int", Boundary.NSE, -1, x -> x.breaks(Boundary.MAX));
        takes("breaks(1)", true, x -> x.breaks(1));
    }

    static void promise15_brokenOffAlready() {
        Boundary.leavesAll("breaks(0)", false, 1, x -> x.breaks(0));
    }

    static void promise15_danceAgainThenBreak() {
        DancedPacts x = Boundary.told(Boundary.PAIR);
        Boundary.due("first", true, () -> x.breaks(0));
        Boundary.due("second", false, () -> x.breaks(0));
        x.again(0);
        Boundary.due("behind again", true, () -> x.breaks(0));
        x.undo();
        Boundary.due("behind undo", true, () -> x.breaks(0));
        Boundary.due("refused", 1, () -> x.count(10));
    }

    static void promise15_aDanceThatIsNotBinding() {
        DancedPacts x = Boundary.told(Boundary.PAIR + "turn 0 1;");
        Boundary.due("not binding, broken off", true, () -> x.breaks(0));
        Boundary.due("since stays", 0, () -> x.dance(0, 4));
        x.years(3);
        Boundary.due("since goes on", 3, () -> x.dance(0, 4));
    }

    // Promise 16: stumble.

    static void promise16_not0To9() {
        Boundary.leavesAll("n -1", -1, 1, x -> x.stumble(0, 0, -1));
        Boundary.leavesAll("n 10", -1, 1, x -> x.stumble(0, 0, 10));
        Boundary.leavesAll("n of the least int", -1, 1, x -> x.stumble(0, 0, Boundary.MIN));
        Boundary.leavesAll("n of the most int", -1, 1, x -> x.stumble(0, 0, Boundary.MAX));
        takes("n 0", 3, x -> x.stumble(0, 0, 0));
        takes("n 9", 3, x -> x.stumble(0, 0, 9));
    }

    static void promise16_noGloveNoBow() {
        DancedPacts x = Boundary.told(ALL);
        int[] due = {1, 4, 2, -1, -1, -1};
        for (int i = 0; i < 6; i++) {
            int k = i;
            Boundary.due("stumble " + k, due[k], () -> x.stumble(0, k, 5));
            Boundary.due("n of " + k, due[k] == -1 ? 0 : 5, () -> x.step(0, k, 2));
        }
        Boundary.due("refused", 3, () -> x.count(10));
        Boundary.due("acts", 3, () -> x.count(6));
        Boundary.leavesAll("a glove", -1, 1, y -> y.stumble(0, 3, 0));
        Boundary.leavesAll("a bow", -1, 1, y -> y.stumble(0, 5, 0));
    }

    static void promise16_noSuchStepAheadOfAll() {
        Boundary.leavesAll("step -1", Boundary.NSE, -1, x -> x.stumble(0, -1, 10));
        Boundary.leavesAll("step 6", Boundary.NSE, -1, x -> x.stumble(0, 6, 10));
        Boundary.leavesAll("dance 2", Boundary.NSE, -1, x -> x.stumble(2, 0, 10));
        Boundary.leavesAll("dance -1", Boundary.NSE, -1, x -> x.stumble(-1, 0, 1));
        Boundary.leavesAll("step 2 of dance 1", Boundary.NSE, -1, x -> x.stumble(1, 2, 1));
        Boundary.leavesAll("the most int", Boundary.NSE, -1, x -> x.stumble(0, Boundary.MAX, 1));
        takes("step 2", 1, x -> x.stumble(0, 2, 1));
        takes("step 1 of dance 1", 2, x -> x.stumble(1, 1, 1));
    }

    static void promise16_asItIsAlready() {
        takes("the same n", 3, x -> x.stumble(0, 0, 3));
    }

    static void promise16_whatItWasLast() {
        DancedPacts x = Boundary.told(ALL);
        Boundary.due("as told", 1, () -> x.stumble(0, 0, 9));
        Boundary.due("as stumbled", 9, () -> x.stumble(0, 0, 0));
        Boundary.due("none", 0, () -> x.stumble(0, 0, 4));
        Boundary.due("the next step stays", 4, () -> x.step(0, 1, 2));
    }

    static void promise16_theLastStepOfTen() {
        DancedPacts x = Boundary.told(Boundary.PAIR + "turn 0 0;".repeat(9) + "turn 0 8;valley 0;dance 0 2 1;turn 1 4;");
        Boundary.due("step 9", 8, () -> x.stumble(0, 9, 1));
        Boundary.due("step 10", Boundary.NSE, () -> x.stumble(0, 10, 1));
        Boundary.due("of the next dance", 4, () -> x.step(1, 0, 2));
    }

    // Promise 17: act.

    static void promise17_not1To99() {
        Boundary.leavesAll("much 0", -1, 1, x -> x.act(0, 1, 0));
        Boundary.leavesAll("much -1", -1, 1, x -> x.act(0, 1, -1));
        Boundary.leavesAll("much 100", -1, 1, x -> x.act(0, 1, 100));
        Boundary.leavesAll("much of the least int", -1, 1, x -> x.act(0, 1, Boundary.MIN));
        Boundary.leavesAll("much of the most int", -1, 1, x -> x.act(0, 1, Boundary.MAX));
        takes("much 1", 6, x -> x.act(0, 1, 1));
        takes("much 99", 104, x -> x.act(0, 1, 99));
    }

    static void promise17_above9999() {
        DancedPacts x = Boundary.told(Boundary.TWO);
        for (int i = 0; i < 100; i++) {
            x.act(1, 7, 99);
        }
        Boundary.due("so far", 9900, () -> x.done(1, 7, 0));
        x.act(1, 7, 98);
        Boundary.due("9998 and 2", -1, () -> x.act(1, 7, 2));
        Boundary.due("9998 and 99", -1, () -> x.act(1, 7, 99));
        Boundary.due("it stays", 9998, () -> x.done(1, 7, 0));
        Boundary.due("9998 and 1", 9999, () -> x.act(1, 7, 1));
        Boundary.due("9999 and 1", -1, () -> x.act(1, 7, 1));
        Boundary.due("refused", 3, () -> x.count(10));
        Boundary.due("about another", 99, () -> x.act(1, 6, 99));
        Boundary.due("another valley", 99, () -> x.act(0, 7, 99));
        x.undo();
        x.undo();
        x.undo();
        Boundary.due("room again", 9999, () -> x.act(1, 7, 1));
    }

    static void promise17_noSuchValleyOrAbout() {
        Boundary.leavesAll("valley -1", Boundary.NSE, -1, x -> x.act(-1, 0, 1));
        Boundary.leavesAll("valley 3", Boundary.NSE, -1, x -> x.act(3, 0, 1));
        Boundary.leavesAll("about -1", Boundary.NSE, -1, x -> x.act(0, -1, 1));
        Boundary.leavesAll("about 8", Boundary.NSE, -1, x -> x.act(0, 8, 1));
        Boundary.leavesAll("valley 3, much 0", Boundary.NSE, -1, x -> x.act(3, 0, 0));
        Boundary.leavesAll("about 8, much 100", Boundary.NSE, -1, x -> x.act(0, 8, 100));
        takes("the first", 1, x -> x.act(0, 0, 1));
        takes("the last", 1, x -> x.act(2, 7, 1));
    }

    static void promise17_whateverItIsBoundTo() {
        DancedPacts x = Boundary.told(Boundary.PAIR + "step 0 1 3;");
        Boundary.due("bound", 2, () -> x.bound(0, 3));
        Boundary.due("much more", 99, () -> x.act(0, 3, 99));
    }

    // Promise 18: undo.

    static void promise18_none() {
        Boundary.leavesAllOf("undo", -1, -1, x -> {
            Boundary.live(x);
            for (int i = 0; i < 6; i++) {
                x.undo();
            }
        }, x -> x.undo());
    }

    static void promise18_oneAndNone() {
        DancedPacts x = Boundary.told(Boundary.PAIR);
        Boundary.due("none", -1, x::undo);
        x.years(5);
        Boundary.due("none left", 0, x::undo);
        Boundary.due("none", -1, x::undo);
        Boundary.due("year", 0, () -> x.count(3));
        Boundary.due("nothing refused", 0, () -> x.count(10));
    }

    static void promise18_eachKind() {
        DancedPacts x = Boundary.told(ALL);
        x.years(9);
        x.breaks(0);
        x.years(1);
        x.again(0);
        x.stumble(0, 0, 9);
        x.act(1, 7, 40);
        Boundary.due("undo act", 5, x::undo);
        Boundary.due("done", 0, () -> x.done(1, 7, 0));
        Boundary.due("undo stumble", 4, x::undo);
        Boundary.due("n", 1, () -> x.step(0, 0, 2));
        Boundary.due("undo again", 3, x::undo);
        Boundary.due("since", 10, () -> x.dance(0, 4));
        Boundary.due("broken off", 1, () -> x.dance(0, 5));
        Boundary.due("undo years", 2, x::undo);
        Boundary.due("year", 9, () -> x.count(3));
        Boundary.due("undo breaks", 1, x::undo);
        Boundary.due("broken off no more", 0, () -> x.dance(0, 5));
        Boundary.due("undo years", 0, x::undo);
        Boundary.due("year 0", 0, () -> x.count(3));
    }

    static void promise18_againOfOneThatWasNotBrokenOff() {
        DancedPacts x = Boundary.told(ALL);
        x.years(3);
        x.again(0);
        x.years(4);
        x.again(0);
        x.undo();
        Boundary.due("since", 4, () -> x.dance(0, 4));
        Boundary.due("broken off", 0, () -> x.dance(0, 5));
        x.undo();
        x.undo();
        Boundary.due("since the first", 3, () -> x.dance(0, 4));
    }

    static void promise18_refusedOnesAreNoActs() {
        DancedPacts x = Boundary.told(ALL);
        x.act(0, 0, 5);
        x.act(0, 0, 100);
        x.years(51);
        x.stumble(0, 0, 10);
        x.stumble(0, 3, 1);
        Boundary.due("refused", 4, () -> x.count(10));
        Boundary.due("one act", 1, () -> x.count(6));
        Boundary.due("undo", 0, x::undo);
        Boundary.due("done", 0, () -> x.done(0, 0, 0));
        Boundary.due("refused still", 4, () -> x.count(10));
    }

    static void promise18_fortyAreKept() {
        DancedPacts x = Boundary.told(ALL);
        for (int i = 1; i <= 40; i++) {
            int many = i;
            x.act(0, 0, i);
            Boundary.due("kept", many, () -> x.count(6));
        }
        for (int i = 39; i >= 0; i--) {
            int left = i;
            Boundary.due("undo", left, x::undo);
            Boundary.due("done", left * (left + 1) / 2, () -> x.done(0, 0, 0));
        }
        Boundary.due("none", -1, x::undo);
    }

    static void promise18_theLatestFortyAreKept() {
        DancedPacts x = Boundary.told(ALL);
        x.years(7);
        x.breaks(0);
        for (int i = 0; i < 40; i++) {
            x.act(0, 0, 2);
            int many = Math.min(40, i + 3);
            Boundary.due("kept", many, () -> x.count(6));
        }
        for (int i = 39; i >= 0; i--) {
            int left = i;
            Boundary.due("undo", left, x::undo);
        }
        Boundary.due("none left", -1, x::undo);
        Boundary.due("all done is undone", 0, () -> x.done(0, 0, 0));
        Boundary.due("years stay", 7, () -> x.count(3));
        Boundary.due("broken off stays", 1, () -> x.dance(0, 5));
    }

    static void promise18_the41st() {
        DancedPacts x = Boundary.told(ALL);
        for (int i = 0; i < 41; i++) {
            x.act(0, 0, i + 1);
        }
        Boundary.due("kept", 40, () -> x.count(6));
        for (int i = 0; i < 40; i++) {
            x.undo();
        }
        Boundary.due("the first stays", 1, () -> x.done(0, 0, 0));
        Boundary.due("none", -1, x::undo);
    }

    static void promise18_eachKindAmongForty() {
        DancedPacts x = Boundary.told(ALL);
        for (int i = 0; i < 41; i++) {
            x.act(1, 1, 1);
        }
        x.years(11);
        x.breaks(0);
        x.again(0);
        x.stumble(0, 2, 9);
        Boundary.due("kept", 40, () -> x.count(6));
        Boundary.due("undo stumble", 39, x::undo);
        Boundary.due("n", 2, () -> x.step(0, 2, 2));
        Boundary.due("undo again", 38, x::undo);
        Boundary.due("since", 11, () -> x.dance(0, 4));
        Boundary.due("broken off", 1, () -> x.dance(0, 5));
        Boundary.due("undo breaks", 37, x::undo);
        Boundary.due("not broken off", 0, () -> x.dance(0, 5));
        Boundary.due("undo years", 36, x::undo);
        Boundary.due("year", 0, () -> x.count(3));
        Boundary.due("undo act", 35, x::undo);
        Boundary.due("done", 40, () -> x.done(1, 1, 0));
        Boundary.due("kept again", 36, () -> {
            x.years(1);
            return x.count(6);
        });
    }

    static void promise18_noSeenNoImageNoBall() {
        DancedPacts x = Boundary.told(ALL);
        x.years(2);
        x.see(0, 0, 0, 1, 6);
        x.image();
        x.forget();
        x.restore();
        Boundary.due("one act", 1, () -> x.count(6));
        Boundary.due("undo", 0, x::undo);
        Boundary.due("year", 0, () -> x.count(3));
        Boundary.due("seen stays", 1, () -> x.count(7));
    }
}
