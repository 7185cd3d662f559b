/** The boundary cases of promises 1 to 4: a new object, the tape, what a text may tell. */
public final class BoundariesOfTextsTest {
    private static final String PAIRS = Boundary.SIX + "dance 0 1 1;dance 0 2 1;dance 0 3 1;dance 0 4 1;"
            + "dance 0 5 1;dance 1 2 1;dance 1 3 1;";
    private static final String EIGHT = PAIRS + "dance 1 4 1;";

    public static void main(String[] args) throws ReflectiveOperationException {
        Boundary.runAll(BoundariesOfTextsTest.class);
    }

    // Promise 1: a new object.

    static void promise01_nobodyIsToBeAsked() {
        DancedPacts x = new DancedPacts();
        Boundary.due("knees", Boundary.NSE, () -> x.knees(0));
        Boundary.due("dance", Boundary.NSE, () -> x.dance(0, 0));
        Boundary.due("step", Boundary.NSE, () -> x.step(0, 0, 0));
        Boundary.due("where", Boundary.NSE, () -> x.where(0, -1, 0, 0));
        Boundary.due("bound", Boundary.NSE, () -> x.bound(0, 0));
        Boundary.due("clauses", Boundary.NSE, () -> x.clauses(0, 0));
        Boundary.due("done", Boundary.NSE, () -> x.done(0, 0, 0));
        Boundary.due("again", Boundary.NSE, () -> x.again(0));
        Boundary.due("breaks", Boundary.NSE, () -> x.breaks(0));
        Boundary.due("stumble", Boundary.NSE, () -> x.stumble(0, 0, 0));
        Boundary.due("act", Boundary.NSE, () -> x.act(0, 0, 1));
        Boundary.due("mend", Boundary.NSE, () -> x.mend(0, 0));
        Boundary.due("costly", Boundary.NSE, () -> x.costly(0));
        Boundary.due("inTime", Boundary.NSE, () -> x.inTime(0, 1));
        Boundary.due("apart", Boundary.NSE, () -> x.apart(0));
        Boundary.due("help", Boundary.NSE, () -> x.help(0));
        Boundary.due("see", Boundary.NSE, () -> x.see(0, 0, 0, 0, 0));
        Boundary.due("limp", Boundary.NSE, () -> x.limp(0, 0));
        Boundary.due("game", Boundary.NSE, () -> x.game(0, 1, 0, 0));
        Boundary.due("nothing refused of texts", 0, () -> x.count(9));
        Boundary.due("nothing refused of acts", 0, () -> x.count(10));
        Boundary.due("nothing refused of what is seen", 0, () -> x.count(11));
    }

    static void promise01_allCountsAreNothing() {
        DancedPacts x = new DancedPacts();
        for (int what = 0; what <= 11; what++) {
            int w = what;
            Boundary.due("count " + w, w == 2 ? 12 : 0, () -> x.count(w));
        }
        Boundary.due("fault", -1, x::fault);
        Boundary.due("undo", -1, x::undo);
        Boundary.due("restore", false, x::restore);
        Boundary.due("later", 0, () -> x.later(0));
        Boundary.due("against", 0, () -> x.against(0));
        Boundary.due("fewest to break", 0, () -> x.against(1));
        Boundary.due("evenings", 0, () -> x.evenings(0));
        Boundary.due("at once", 0, () -> x.evenings(1));
        Boundary.due("which at once", 0, () -> x.evenings(2));
    }

    static void promise01_oneObjectTellsAnotherNothing() {
        DancedPacts x = Boundary.living();
        DancedPacts y = new DancedPacts();
        for (int what = 0; what <= 11; what++) {
            int w = what;
            Boundary.due("count " + w, w == 2 ? 12 : 0, () -> y.count(w));
        }
        Boundary.due("restore", false, y::restore);
        Boundary.due("the other one stays", 3, () -> x.count(0));
    }

    static void promise01_NONE() {
        Boundary.due("NONE", -1, () -> DancedPacts.NONE);
    }

    // Promise 2: feed.

    static void promise02_theLastTwentyBytesOf700() {
        DancedPacts x = new DancedPacts();
        for (int i = 1; i <= 34; i++) {
            int bytes = 20 * i;
            Boundary.due("feed " + i, bytes, () -> x.feed(0, 0, 0, 0, 0));
        }
        Boundary.due("feed 35", 700, () -> x.feed(0, 0, 0, 0, 0));
        Boundary.due("feed 36", -1, () -> x.feed(0, 0, 0, 0, 0));
        Boundary.due("feed 37", -1, () -> x.feed(0, 0, 0, 0, 0));
        Boundary.due("none came", 700, () -> x.count(8));
    }

    static void promise02_tooMuchLeavesAll() {
        Boundary.leavesAllOf("feed", -1, -1, x -> {
            Boundary.live(x);
            Boundary.feedText(x, Boundary.blanks(680));
        }, x -> x.feed(-1, -1, -1, -1, -1));
    }

    static void promise02_twentyBytesFitBeforeThat() {
        DancedPacts x = new DancedPacts();
        Boundary.feedText(x, Boundary.blanks(680));
        Boundary.due("the last", 700, () -> Boundary.feedText(x, "floor 19;valley 8;  "));
        Boundary.due("too much", -1, () -> x.feed(-1, -1, -1, -1, -1));
        Boundary.due("700 bytes", 0, () -> x.ball(700));
        Boundary.due("floor", 19, () -> x.count(2));
        Boundary.due("knees", 8, () -> x.knees(0));
    }

    static void promise02_theHighestByteOfEachNumberFirst() {
        for (int place = 0; place < 20; place++) {
            int[] f = {0x20202020, 0x20202020, 0x20202020, 0x20202020, 0x20202020};
            f[place / 4] |= 0xFF << 8 * (3 - place % 4);
            DancedPacts x = new DancedPacts();
            x.feed(f[0], f[1], f[2], f[3], f[4]);
            int p = place;
            Boundary.due("a byte 255 at " + p, 1, () -> x.ball(20));
            Boundary.due("its place", p, x::fault);
        }
    }

    static void promise02_theTapeIsEmptyBehindABall() {
        DancedPacts x = new DancedPacts();
        Boundary.feedText(x, Boundary.blanks(700));
        Boundary.due("full", -1, () -> x.feed(0, 0, 0, 0, 0));
        Boundary.due("ball", 0, () -> x.ball(0));
        Boundary.due("room again", 20, () -> x.feed(0, 0, 0, 0, 0));
    }

    // Promise 3: ball, its number.

    static void promise03_nBelow0() {
        Boundary.leavesAll("ball(-1)", Boundary.IAE, -1, x -> x.ball(-1));
        Boundary.leavesAll("ball of the least int", Boundary.IAE, -1, x -> x.ball(Boundary.MIN));
        DancedPacts x = new DancedPacts();
        Boundary.due("ball(0)", 0, () -> x.ball(0));
    }

    static void promise03_theTapeHasNotSoMany() {
        Boundary.leavesAll("ball(21) of 20", Boundary.IAE, -1, x -> x.ball(21));
        Boundary.leavesAll("ball of the most int", Boundary.IAE, -1, x -> x.ball(Boundary.MAX));
        DancedPacts x = Boundary.living();
        Boundary.due("ball(20) of 20", 0, () -> x.ball(20));
        DancedPacts y = new DancedPacts();
        Boundary.due("ball(1) of none", Boundary.IAE, () -> y.ball(1));
        Boundary.due("nothing refused", 0, () -> y.count(9));
    }

    static void promise03_theWholeTapeOf700() {
        DancedPacts x = new DancedPacts();
        Boundary.feedText(x, Boundary.blanks(691) + "valley 4;");
        Boundary.due("ball(701)", Boundary.IAE, () -> x.ball(701));
        Boundary.due("ball(700)", 0, () -> x.ball(700));
        Boundary.due("knees", 4, () -> x.knees(0));
        DancedPacts y = new DancedPacts();
        Boundary.feedText(y, Boundary.blanks(691) + "valley 4;");
        Boundary.due("ball(699)", 1, () -> y.ball(699));
        Boundary.due("its fault", 699, y::fault);
    }

    static void promise03_nothingIsABall() {
        DancedPacts x = Boundary.living();
        Boundary.due("ball(0)", 0, () -> x.ball(0));
        Boundary.due("valleys", 0, () -> x.count(0));
        Boundary.due("dances", 0, () -> x.count(1));
        Boundary.due("floor", 12, () -> x.count(2));
        Boundary.due("the tape is empty", 0, () -> x.count(8));
    }

    static void promise03_blanksAreABall() {
        Boundary.fits(" ");
        Boundary.fits("\n");
        Boundary.fits(Boundary.blanks(700));
    }

    static void promise03_theFirstBytesAlone() {
        DancedPacts x = new DancedPacts();
        Boundary.feedText(x, "valley 1;valley 2;");
        Boundary.due("ball(9) of 20", 0, () -> x.ball(9));
        Boundary.due("one valley", 1, () -> x.count(0));
        Boundary.due("the rest is gone", 0, () -> x.count(8));
        Boundary.due("ball(1)", Boundary.IAE, () -> x.ball(1));
        DancedPacts y = new DancedPacts();
        Boundary.feedText(y, "valley 1;valley 2;");
        Boundary.due("ball(18) of 20", 0, () -> y.ball(18));
        Boundary.due("two valleys", 2, () -> y.count(0));
    }

    static void promise03_aTokenCutByTheEnd() {
        DancedPacts x = new DancedPacts();
        Boundary.feedText(x, "valley 10;");
        Boundary.due("valley 1", 1, () -> x.ball(8));
        Boundary.due("ends too soon", 8, x::fault);
        Boundary.feedText(x, "valley 10;");
        Boundary.due("valley 10", 2, () -> x.ball(9));
        Boundary.due("too much", 7, x::fault);
        Boundary.feedText(x, "valley 1;");
        Boundary.due("vall", 1, () -> x.ball(4));
        Boundary.due("no line", 0, x::fault);
    }

    static void promise03_aFaultLeavesAllButStatus() {
        Boundary.leavesAllOf("FAULT 1", 1, 0, Boundary::liveWithoutTape, x -> Boundary.tell(x, "z"));
        String many = "valley 9;valley 8;valley 7;valley 6;floor 4;limit 0;dance 3 2 1;step 0 9 7;";
        Boundary.Script thatPlace = x -> {
            Boundary.liveWithoutTape(x);
            Boundary.tell(x, Boundary.blanks(many.length()) + "x");
        };
        Boundary.leavesAllOf("FAULT 5", 5, 0, thatPlace, x -> Boundary.tell(x, many + "limit 1;"));
    }

    static void promise03_aFaultEmptiesTheTape() {
        DancedPacts x = new DancedPacts();
        Boundary.feedText(x, "x valley 1;valley 2; valley 3;");
        Boundary.due("ball", 1, () -> x.ball(5));
        Boundary.due("the tape", 0, () -> x.count(8));
    }

    static void promise03_allAnewBehindABall() {
        DancedPacts x = new DancedPacts();
        Boundary.liveWithoutTape(x);
        Boundary.due("texts refused ahead", 1, () -> x.count(9));
        Boundary.due("ball", 0, () -> Boundary.tell(x, "valley 0;valley 0;valley 0;dance 0 1 3;step 2 2 1;"
                + "dance 2 1 1;hop 0 3 4;"));
        Boundary.due("fault", -1, x::fault);
        Boundary.due("year", 0, () -> x.count(3));
        Boundary.due("acts", 0, () -> x.count(6));
        Boundary.due("seen", 0, () -> x.count(7));
        Boundary.due("tape", 0, () -> x.count(8));
        Boundary.due("floor", 12, () -> x.count(2));
        Boundary.due("knees", 0, () -> x.knees(1));
        Boundary.due("no rule", 6, () -> x.bound(0, 1));
        Boundary.due("n as told", 2, () -> x.step(0, 0, 2));
        Boundary.due("not broken off", 0, () -> x.dance(0, 5));
        Boundary.due("danced now", 0, () -> x.dance(0, 4));
        Boundary.due("danced now too", 0, () -> x.dance(1, 4));
        Boundary.due("done by 0", 0, () -> x.done(0, 1, 0));
        Boundary.due("done by 1", 0, () -> x.done(1, 2, 0));
        Boundary.due("none to undo", -1, x::undo);
        Boundary.due("no image", false, x::restore);
        Boundary.due("steps of the text before", 1, () -> x.dance(0, 3));
    }

    static void promise03_theRuleOfTheLatestTextAlone() {
        DancedPacts x = Boundary.told(Boundary.PAIR + "step 0 1 3;limit n+about*2;");
        Boundary.due("the first rule", 7, () -> x.bound(0, 3));
        Boundary.due("a fault within a rule", 3, () -> Boundary.tell(x, "limit 50+(30+x);"));
        Boundary.due("the first rule still", 7, () -> x.bound(0, 3));
        Boundary.due("another", 0, () -> Boundary.tell(x, Boundary.PAIR + "step 0 1 3;limit 40;"));
        Boundary.due("the second rule", 40, () -> x.bound(0, 3));
        Boundary.due("none", 0, () -> Boundary.tell(x, Boundary.PAIR + "step 0 1 3;"));
        Boundary.due("without a rule", 2, () -> x.bound(0, 3));
        Boundary.due("the last", 0, () -> Boundary.tell(x, Boundary.PAIR + "step 0 1 3;limit 9;"));
        Boundary.due("the last rule", 9, () -> x.bound(0, 3));
    }

    static void promise03_allThatThereCanBe() {
        DancedPacts x = Boundary.told(Boundary.FULL);
        Boundary.due("valleys", 6, () -> x.count(0));
        Boundary.due("dances", 8, () -> x.count(1));
        for (int dance = 0; dance < 8; dance++) {
            int d = dance;
            Boundary.due("steps of " + d, 10, () -> x.dance(d, 3));
            Boundary.due("kind of the last of " + d, d == 7 ? 1 : 4, () -> x.step(d, 9, 0));
        }
        Boundary.due("a smaller one", 0, () -> Boundary.tell(x, Boundary.PAIR));
        Boundary.due("valleys then", 2, () -> x.count(0));
        Boundary.due("dances then", 1, () -> x.count(1));
        Boundary.due("steps then", 0, () -> x.dance(0, 3));
        Boundary.due("no step then", Boundary.NSE, () -> x.step(0, 0, 0));
    }

    static void promise03_statusStaysOverABall() {
        DancedPacts x = Boundary.living();
        Boundary.due("ball", 0, () -> x.ball(0));
        Boundary.due("texts", 1, () -> x.count(9));
        Boundary.due("acts", 1, () -> x.count(10));
        Boundary.due("seen", 1, () -> x.count(11));
        Boundary.due("another fault", 1, () -> Boundary.tell(x, ";"));
        Boundary.due("two texts", 2, () -> x.count(9));
    }

    // Promise 3: tokens.

    static void promise03_whichBytesAreTokens() {
        for (int b = 0; b < 256; b++) {
            char c = (char) b;
            boolean blank = b == 32 || b == 10;
            boolean digit = b >= 48 && b <= 57;
            boolean joins = "+-*/<=".indexOf(c) >= 0;
            // Between two NUMBERS: blanks part them, digits join them, operators fit.
            String between = "limit 1" + c + "1;";
            boolean fits = digit || joins;
            Boundary.fault(between, c == ';' || !fits ? 1 : 0,
                    fits ? -1 : blank || c == ';' ? 8 : 7);
            // Where a PART must stand: letters are words, of which n alone is a VALUE here.
            String part = "limit " + c + ";";
            boolean letter = b >= 97 && b <= 122;
            int due = digit || c == 'n' ? 0 : letter ? 3 : 1;
            Boundary.fault(part, due, due == 0 ? -1 : blank || c == '(' ? 7 : 6);
        }
    }

    static void promise03_blanksCountForNothing() {
        Boundary.fits("valley5;");
        Boundary.fits("\n valley \n 5 \n ; \n");
        Boundary.fits("limit n+1<2and not3;");
        Boundary.fault("val ley 5;", 1, 0);
        Boundary.fault("valley 1 0;", 1, 9);
        Boundary.fault("valley 1\n0;", 1, 9);
        Boundary.fault("limit 1 2;", 1, 8);
        Boundary.fault("limit pl ace;", 3, 6);
        Boundary.fault("valley\t5;", 1, 6);
        Boundary.fault("valley\r5;", 1, 6);
    }

    static void promise03_wordsAreTheLongestRow() {
        Boundary.fault("valleyvalley 5;", 1, 0);
        Boundary.fault("valleys 5;", 1, 0);
        Boundary.fault("valle 5;", 1, 0);
        Boundary.fault("limit nn;", 3, 6);
        Boundary.fault("limit notn;", 3, 6);
        Boundary.fits("limit not n;");
        Boundary.fault("limit 1 orn;", 1, 8);
        Boundary.fault("limit 1andn;", 1, 7);
        Boundary.fits("limit 1and n;");
        Boundary.fault("Valley 5;", 1, 0);
        Boundary.fault("vAlley 5;", 1, 0);
        Boundary.fault("limit N;", 1, 6);
    }

    static void promise03_numbersOf4And5Digits() {
        Boundary.fits("limit 9999;");
        Boundary.fault("limit 10000;", 2, 6);
        Boundary.fits("limit 0000;");
        Boundary.fault("limit 00000;", 2, 6);
        Boundary.fits("valley 0009;");
        Boundary.fault("valley 00009;", 2, 7);
        Boundary.fits("floor 0004;");
        Boundary.fault("floor 00004;", 2, 6);
        Boundary.fits(Boundary.TWO + "dance 0000 0001 0004;");
        Boundary.fault(Boundary.TWO + "dance 00000 1 4;", 2, 24);
        Boundary.fault(Boundary.TWO + "dance 0 00001 4;", 2, 26);
        Boundary.fault(Boundary.TWO + "dance 0 1 00004;", 2, 28);
        Boundary.fits(Boundary.PAIR + "step 0002 0009 0007;hop 0002 0009 0007;turn 0002 0009;glove 0002 0007;");
        Boundary.fault(Boundary.PAIR + "step 00002 9 7;", 2, 35);
        Boundary.fault(Boundary.PAIR + "step 2 00009 7;", 2, 37);
        Boundary.fault(Boundary.PAIR + "step 2 9 00007;", 2, 39);
        Boundary.fault(Boundary.PAIR + "hop 2 00009 7;", 2, 36);
        Boundary.fault(Boundary.PAIR + "turn 2 00009;", 2, 37);
        Boundary.fault(Boundary.PAIR + "glove 2 00007;", 2, 38);
    }

    static void promise03_numbersThatWouldWrap() {
        Boundary.fault("valley 4294967296;", 2, 7);
        Boundary.fault("valley 4294967297;", 2, 7);
        Boundary.fault("valley 18446744073709551616;", 2, 7);
        Boundary.fault("valley " + "0".repeat(600) + ";", 2, 7);
        Boundary.fault("limit 2147483648;", 2, 6);
        Boundary.fault("floor 4294967300;", 2, 6);
    }

    // Promise 3: how much of each.

    static void promise03_knees0To9() {
        Boundary.fits("valley 0;");
        Boundary.fits("valley 9;");
        Boundary.fault("valley 10;", 2, 7);
        Boundary.fault("valley 9999;", 2, 7);
        Boundary.fault("valley -1;", 1, 7);
    }

    static void promise03_time1To4() {
        Boundary.fault(Boundary.TWO + "dance 0 1 0;", 2, 28);
        for (int time = 1; time <= 4; time++) {
            int t = time;
            DancedPacts x = Boundary.told(Boundary.TWO + "dance 0 1 " + time + ";");
            Boundary.due("time", t, () -> x.dance(0, 2));
        }
        Boundary.fault(Boundary.TWO + "dance 0 1 5;", 2, 28);
    }

    static void promise03_who0To2() {
        for (int who = 0; who <= 2; who++) {
            Boundary.fits(Boundary.PAIR + "step " + who + " 1 1;turn " + who + " 1;hop " + who + " 1 1;glove "
                    + who + " 1;");
        }
        Boundary.fault(Boundary.PAIR + "step 3 1 1;", 2, 35);
        Boundary.fault(Boundary.PAIR + "turn 3 1;", 2, 35);
        Boundary.fault(Boundary.PAIR + "hop 3 1 1;", 2, 34);
        Boundary.fault(Boundary.PAIR + "glove 3 1;", 2, 36);
    }

    static void promise03_n0To9() {
        Boundary.fits(Boundary.PAIR + "step 0 0 1;hop 0 0 1;turn 0 0;");
        Boundary.fits(Boundary.PAIR + "step 0 9 1;hop 0 9 1;turn 0 9;");
        Boundary.fault(Boundary.PAIR + "step 0 10 1;", 2, 37);
        Boundary.fault(Boundary.PAIR + "hop 0 10 1;", 2, 36);
        Boundary.fault(Boundary.PAIR + "turn 0 10;", 2, 37);
    }

    static void promise03_about0To7() {
        Boundary.fits(Boundary.PAIR + "step 0 1 0;hop 0 1 0;glove 0 0;");
        Boundary.fits(Boundary.PAIR + "step 0 1 7;hop 0 1 7;glove 0 7;");
        Boundary.fault(Boundary.PAIR + "step 0 1 8;", 2, 39);
        Boundary.fault(Boundary.PAIR + "hop 0 1 8;", 2, 38);
        Boundary.fault(Boundary.PAIR + "glove 0 8;", 2, 38);
    }

    static void promise03_floor4To20() {
        Boundary.fault("floor 3;", 2, 6);
        Boundary.fault("floor 0;", 2, 6);
        for (int floor = 4; floor <= 20; floor++) {
            int f = floor;
            DancedPacts x = Boundary.told("floor " + floor + ";");
            Boundary.due("floor", f, () -> x.count(2));
        }
        Boundary.fault("floor 21;", 2, 6);
    }

    static void promise03_floor12Without() {
        DancedPacts x = Boundary.told("floor 13;");
        Boundary.due("floor", 13, () -> x.count(2));
        Boundary.due("ball", 0, () -> Boundary.tell(x, "valley 0;"));
        Boundary.due("floor without", 12, () -> x.count(2));
    }

    static void promise03_theSeventhValley() {
        Boundary.fits(Boundary.SIX);
        Boundary.fault(Boundary.SIX + "valley 0;", 2, 54);
        Boundary.fault(Boundary.SIX + "valley", 2, 54);
        Boundary.fault(Boundary.SIX + "  valley x", 2, 56);
    }

    static void promise03_theNinthDance() {
        Boundary.fits(EIGHT);
        Boundary.fault(EIGHT + "dance 2 3 1;", 2, EIGHT.length());
        Boundary.fault(EIGHT + "dance", 2, EIGHT.length());
        Boundary.fault(EIGHT + "dance 0 0 9;", 2, EIGHT.length());
    }

    static void promise03_theEleventhStep() {
        String[] lines = {"step 0 0 0;", "turn 0 0;", "hop 0 0 0;", "glove 0 0;", "bow;"};
        for (String line : lines) {
            String ten = Boundary.PAIR + "bow;".repeat(9) + line;
            Boundary.fits(ten);
            for (String next : lines) {
                Boundary.fault(ten + next, 2, ten.length());
            }
        }
        String ten = Boundary.PAIR + "bow;".repeat(10);
        Boundary.fault(ten + "bow", 2, ten.length());
        Boundary.fault(ten + "step 9 99 99", 2, ten.length());
        Boundary.fits(ten + "floor 5;limit 1;valley 0;dance 0 2 1;" + "turn 0 1;".repeat(10));
    }

    static void promise03_stepsOfTheDanceToldLast() {
        DancedPacts x = Boundary.told(Boundary.PAIR + "bow;valley 0;bow;dance 0 2 1;floor 5;turn 0 1;dance 1 2 1;");
        Boundary.due("of the first", 2, () -> x.dance(0, 3));
        Boundary.due("of the second", 1, () -> x.dance(1, 3));
        Boundary.due("of the last", 0, () -> x.dance(2, 3));
    }

    // Promise 3: FAULT 1.

    static void promise03_aStepAheadOfAllDances() {
        String[] lines = {"step 0 0 0;", "turn 0 0;", "hop 0 0 0;", "glove 0 0;", "bow;"};
        for (String line : lines) {
            Boundary.fault(line, 1, 0);
            Boundary.fault(Boundary.TWO + line, 1, 18);
            Boundary.fault(Boundary.TWO + line + "dance 0 1 1;", 1, 18);
            Boundary.fits(Boundary.TWO + "dance 0 1 1;" + line);
        }
    }

    static void promise03_aTextThatEndsTooSoon() {
        String[] tokens = {"valley", "0", ";", "valley", "1", ";", "dance", "0", "1", "2", ";",
            "step", "0", "1", "2", ";", "hop", "1", "1", "2", ";", "turn", "2", "3", ";", "glove", "1", "4", ";",
            "bow", ";", "floor", "7", ";", "limit", "n", ";"};
        StringBuilder text = new StringBuilder();
        boolean within = false;
        for (String token : tokens) {
            text.append(token);
            within = !token.equals(";");
            Boundary.fault(text.toString(), within ? 1 : 0, within ? text.length() : -1);
            text.append(" \n");
            Boundary.fault(text.toString(), within ? 1 : 0, within ? text.length() : -1);
        }
    }

    static void promise03_anExpressionThatEndsTooSoon() {
        String[] tokens = {"limit", "(", "n", "+", "1", "-", "2", "*", "3", "/", "4", "<", "5", ")", "=", "6",
            "and", "not", "7", "or", "8"};
        StringBuilder text = new StringBuilder();
        for (String token : tokens) {
            text.append(token).append(' ');
            Boundary.fault(text.toString(), 1, text.length());
        }
        Boundary.fits(text + ";");
    }

    static void promise03_aTextThatEndsTooSoonAt700() {
        Boundary.fault(Boundary.blanks(692) + "valley 0", 1, 700);
        Boundary.fits(Boundary.blanks(691) + "valley 0;");
    }

    static void promise03_aTokenThatCannotStandThere() {
        String[] first = {";", "(", ")", "+", "-", "*", "/", "<", "=", "7", "12345", "n", "or", "x", "!"};
        for (String token : first) {
            Boundary.fault(token + " 1;", 1, 0);
            Boundary.fault(Boundary.PAIR + token, 1, 30);
        }
        String[] lines = {"valley 1 ;", "dance 0 2 1 ;", "step 0 1 1 ;", "hop 0 1 1 ;", "turn 0 1 ;", "glove 0 1 ;",
            "bow ;", "floor 5 ;"};
        for (String line : lines) {
            String ahead = Boundary.PAIR + "valley 0;";
            Boundary.fits(ahead + line);
            for (int i = line.indexOf(' '); i >= 0; i = line.indexOf(' ', i + 1)) {
                int place = ahead.length() + i + 1;
                Boundary.fault(ahead + line.substring(0, i + 1) + "=" + line.substring(i + 1), 1, place);
                Boundary.fault(ahead + line.substring(0, i + 1) + "n" + line.substring(i + 1), 1, place);
                Boundary.fault(ahead + line.substring(0, i + 1) + "!" + line.substring(i + 1), 1, place);
            }
        }
    }

    static void promise03_oneNumberTooManyOrTooFew() {
        String ahead = Boundary.PAIR + "valley 0;";
        int at = ahead.length();
        Boundary.fault(ahead + "valley;", 1, at + 6);
        Boundary.fault(ahead + "valley 1 1;", 1, at + 9);
        Boundary.fault(ahead + "dance 0 2;", 1, at + 9);
        Boundary.fault(ahead + "dance 0 2 1 1;", 1, at + 12);
        Boundary.fault(ahead + "step 0 1;", 1, at + 8);
        Boundary.fault(ahead + "step 0 1 1 1;", 1, at + 11);
        Boundary.fault(ahead + "hop 0 1;", 1, at + 7);
        Boundary.fault(ahead + "hop 0 1 1 1;", 1, at + 10);
        Boundary.fault(ahead + "turn 0;", 1, at + 6);
        Boundary.fault(ahead + "turn 0 1 1;", 1, at + 9);
        Boundary.fault(ahead + "glove 0;", 1, at + 7);
        Boundary.fault(ahead + "glove 0 1 1;", 1, at + 10);
        Boundary.fault(ahead + "bow 0;", 1, at + 4);
        Boundary.fault(ahead + "floor;", 1, at + 5);
        Boundary.fault(ahead + "floor 5 5;", 1, at + 8);
        Boundary.fault(ahead + "limit;", 1, at + 5);
    }

    static void promise03_expressionsWithoutAPart() {
        String[] ahead = {"", "(", "not ", "1+", "1-", "1*", "1/", "1<", "1=", "1 and ", "1 or "};
        String[] cannot = {";", ")", "+", "-", "*", "/", "<", "=", "!"};
        for (String a : ahead) {
            for (String c : cannot) {
                Boundary.fault("limit " + a + c, 1, 6 + a.length());
            }
        }
    }

    static void promise03_behindAPart() {
        String[] cannot = {"(", "!", "5", "12345", "n", "not", "x", "valley"};
        for (String c : cannot) {
            Boundary.fault("limit n " + c, 1, 8);
            Boundary.fault("limit 1 " + c, 1, 8);
            Boundary.fault("limit (1) " + c, 1, 10);
            Boundary.fault("limit (1 " + c, 1, 9);
        }
        Boundary.fault("limit 1)", 1, 7);
        Boundary.fault("limit (1))", 1, 9);
        Boundary.fault("limit (1;", 1, 8);
    }

    static void promise03_oneTestAlone() {
        Boundary.fits("limit 1<2;");
        Boundary.fits("limit 1=2;");
        Boundary.fault("limit 1<2<3;", 1, 9);
        Boundary.fault("limit 1<2=3;", 1, 9);
        Boundary.fault("limit 1=2<3;", 1, 9);
        Boundary.fault("limit 1=2=3;", 1, 9);
        Boundary.fits("limit (1<2)=(3<4);");
        Boundary.fits("limit 1<2 and 3=4 or 5<6;");
    }

    // Promise 3: FAULT 2 in expressions.

    static void promise03_anExpressionWithin5And6Others() {
        Boundary.fits("limit (((((1)))));");
        Boundary.fits("limit (((((n)))));");
        Boundary.fits("limit (((((not 1)))));");
        Boundary.fault("limit ((((((1))))));", 2, 12);
        Boundary.fault("limit ((((((n))))));", 2, 12);
        Boundary.fault("limit ((((((not 1))))));", 2, 12);
        Boundary.fault("limit ((((((x", 2, 12);
        Boundary.fault("limit ((((((or", 2, 12);
        Boundary.fault("limit ((((((12345", 2, 12);
        Boundary.fault("limit (((((((", 2, 12);
        Boundary.fault("limit (((((( 1", 2, 13);
    }

    static void promise03_whatCannotBeginAnExpressionWithin6() {
        Boundary.fault("limit ((((((", 1, 12);
        Boundary.fault("limit (((((( ", 1, 13);
        String[] cannot = {";", ")", "+", "-", "*", "/", "<", "=", "!"};
        for (String c : cannot) {
            Boundary.fault("limit ((((((" + c, 1, 12);
        }
    }

    static void promise03_parenthesesBesideOneAnother() {
        Boundary.fits("limit (((((1)))))+(((((1)))))*(((((1)))));");
        Boundary.fits("limit ((((1)+(1))+(1))+(1))+(1);");
        Boundary.fault("limit (((((1)))))+((((((1))))));", 2, 24);
        Boundary.fault("limit 1+(1+(1+(1+(1+(1+(1))))));", 2, 24);
        Boundary.fits("limit 1+(1+(1+(1+(1+(1)))));");
        Boundary.fault("limit ((((((1", 2, 12);
    }

    static void promise03_theSeventhNot() {
        Boundary.fits("limit " + "not ".repeat(6) + "1;");
        Boundary.fault("limit " + "not ".repeat(7) + "1;", 2, 30);
        Boundary.fault("limit " + "not ".repeat(6) + "not", 2, 30);
        Boundary.fault("limit " + "not ".repeat(9) + "1;", 2, 30);
        Boundary.fits("limit " + "not ".repeat(6) + "(" + "not ".repeat(6) + "1);");
        Boundary.fits("limit " + "not ".repeat(6) + "1 and " + "not ".repeat(6) + "1 or " + "not ".repeat(6) + "1;");
        Boundary.fault("limit " + "not ".repeat(6) + "(" + "not ".repeat(7) + "1);", 2, 55);
        Boundary.fault("limit 1 and " + "not ".repeat(7) + "1;", 2, 36);
        Boundary.fault("limit " + "not ".repeat(6) + "x;", 3, 30);
        Boundary.fault("limit " + "not ".repeat(6) + ";", 1, 30);
    }

    static void promise03_anyNumberIsAPart() {
        Boundary.fits("limit 0;");
        Boundary.fits("limit 100;");
        Boundary.fits("limit 9999*9999*9999;");
        Boundary.fits("limit 1" + "+1".repeat(346) + ";");
        Boundary.fits("limit 1" + "/0".repeat(346) + ";");
    }

    // Promise 3: FAULTS 3 to 5.

    static void promise03_aWordThatIsNoValue() {
        String[] ahead = {"", "(", "not ", "1+", "1-", "1*", "1/", "1<", "1=", "1 and ", "1 or "};
        String[] words = {"x", "and", "or", "valley", "dance", "step", "turn", "glove", "bow", "floor", "limit", "who",
            "nn", "abouts", "tim"};
        String[] values = {"n", "about", "time", "hop", "place", "lead"};
        for (String a : ahead) {
            String end = a.equals("(") ? ");" : ";";
            for (String w : words) {
                Boundary.fault("limit " + a + w + end, 3, 6 + a.length());
            }
            for (String v : values) {
                Boundary.fits("limit " + a + v + end);
            }
        }
    }

    static void promise03_notWhereAPartMustStand() {
        String[] may = {"", "(", "not ", "1 and ", "1 or "};
        for (String a : may) {
            Boundary.fits("limit " + a + "not 1" + (a.equals("(") ? ");" : ";"));
        }
        String[] mayNot = {"1+", "1-", "1*", "1/", "1<", "1="};
        for (String a : mayNot) {
            Boundary.fault("limit " + a + "not 1;", 3, 8);
            Boundary.fits("limit " + a + "(not 1);");
        }
    }

    static void promise03_aValleyThatIsNotToldAhead() {
        Boundary.fault("dance 0 1 1;", 3, 6);
        Boundary.fault("valley 0;dance 0 1 1;", 3, 17);
        Boundary.fault("valley 0;dance 1 0 1;", 3, 15);
        Boundary.fits(Boundary.TWO + "dance 0 1 1;");
        Boundary.fits(Boundary.TWO + "dance 1 0 1;");
        Boundary.fault(Boundary.TWO + "dance 2 0 1;valley 0;", 3, 24);
        Boundary.fault(Boundary.TWO + "dance 0 2 1;valley 0;", 3, 26);
        Boundary.fits(Boundary.TWO + "valley 0;dance 0 2 1;");
        Boundary.fits(Boundary.SIX + "dance 5 0 1;");
        Boundary.fault(Boundary.SIX + "dance 6 0 1;", 3, 60);
        Boundary.fault(Boundary.SIX + "dance 0 6 1;", 3, 62);
        Boundary.fault(Boundary.SIX + "dance 0 9999 1;", 3, 62);
        Boundary.fault(Boundary.SIX + "dance 9999 0 1;", 3, 60);
    }

    static void promise03_theSecondValleyIsTheFirst() {
        Boundary.fault(Boundary.TWO + "dance 0 0 1;", 4, 26);
        Boundary.fault(Boundary.TWO + "dance 1 1 1;", 4, 26);
        Boundary.fault(Boundary.TWO + "dance 1 01", 4, 26);
        Boundary.fits(Boundary.TWO + "dance 0 1 1;");
    }

    static void promise03_aDanceWithItAlready() {
        String third = Boundary.PAIR + "valley 0;";
        Boundary.fault(third + "dance 0 1 1;", 4, 47);
        Boundary.fault(third + "dance 1 0 1;", 4, 47);
        Boundary.fits(third + "dance 0 2 1;dance 2 1 1;");
        Boundary.fault(third + "dance 0 2 1;dance 2 1 1;dance 1 2 1;", 4, 71);
        Boundary.fault(third + "dance 0 2 1;dance 2 0 1;", 4, 59);
        Boundary.fault(PAIRS + "dance 3 1", 4, PAIRS.length() + 8);
    }

    static void promise03_aSecondFloor() {
        Boundary.fits("floor 5;valley 0;");
        Boundary.fault("floor 5;floor 5;", 5, 8);
        Boundary.fault("floor 5;valley 0;floor 99;", 5, 17);
        Boundary.fault("floor 12;floor", 5, 9);
    }

    static void promise03_aSecondLimit() {
        Boundary.fits("limit 1;floor 5;");
        Boundary.fault("limit 1;limit 1;", 5, 8);
        Boundary.fault("limit 1;floor 5;limit x;", 5, 16);
        Boundary.fault("limit 1;limit", 5, 8);
    }

    static void promise03_theFirstFaultAlongTheText() {
        Boundary.fault("valley 10;x", 2, 7);
        Boundary.fault("floor 5;floor 5;x", 5, 8);
        Boundary.fault("limit x+12345;", 3, 6);
        Boundary.fault("limit 12345+x;", 2, 6);
        Boundary.fault(Boundary.TWO + "dance 0 0 9;", 4, 26);
        Boundary.fault(Boundary.TWO + "dance 9 9 9;", 3, 24);
        Boundary.fault(Boundary.PAIR + "step 3 10 8;", 2, 35);
        Boundary.fault(Boundary.PAIR + "step 2 10 8;", 2, 37);
    }

    static void promise03_theLeastFaultOfOneToken() {
        // 1 ahead of 2: a NUMBER of 5 digits where none can stand.
        Boundary.fault("valley 5 12345;", 1, 9);
        Boundary.fault("12345", 1, 0);
        Boundary.fault("limit 1 12345;", 1, 8);
        // 2 ahead of 3: a VALLEY of 5 digits, a word that is no VALUE too deep.
        Boundary.fault("dance 12345 0 1;", 2, 6);
        Boundary.fault("limit ((((((x", 2, 12);
        // 2 ahead of 4: the same VALLEY in 5 digits.
        Boundary.fault(Boundary.TWO + "dance 1 00001 1;", 2, 26);
    }

    // Promise 4: fault.

    static void promise04_noneWithout() {
        DancedPacts x = new DancedPacts();
        Boundary.due("new", -1, x::fault);
        Boundary.due("ball", 0, () -> Boundary.tell(x, "valley 1;"));
        Boundary.due("without", -1, x::fault);
    }

    static void promise04_theFirstByteAndTheLast() {
        Boundary.fault("!", 1, 0);
        Boundary.fault(" !", 1, 1);
        Boundary.fault(Boundary.blanks(699) + "!", 1, 699);
        Boundary.fault(Boundary.blanks(699) + "x", 1, 699);
        Boundary.fault(Boundary.blanks(694) + "valley", 1, 700);
    }

    static void promise04_theLatestBall() {
        DancedPacts x = new DancedPacts();
        Boundary.due("a fault", 2, () -> Boundary.tell(x, "valley 10;"));
        Boundary.due("its place", 7, x::fault);
        Boundary.due("another", 1, () -> Boundary.tell(x, "valley 1"));
        Boundary.due("its place", 8, x::fault);
        Boundary.due("one that throws", Boundary.IAE, () -> x.ball(1));
        Boundary.due("the place stays", 8, x::fault);
        Boundary.due("none", 0, () -> x.ball(0));
        Boundary.due("no place", -1, x::fault);
        Boundary.due("one that throws", Boundary.IAE, () -> x.ball(-1));
        Boundary.due("no place still", -1, x::fault);
    }

    static void promise04_anImageTellsNothingOfIt() {
        DancedPacts x = new DancedPacts();
        x.image();
        Boundary.due("a fault", 1, () -> Boundary.tell(x, "  x"));
        Boundary.due("restore", true, x::restore);
        Boundary.due("its place", 2, x::fault);
        Boundary.due("not counted any more", 0, () -> x.count(9));
    }
}
