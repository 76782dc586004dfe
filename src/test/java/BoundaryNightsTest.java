/** Promises 1 to 6, nights and people: a test for each sentence that names a boundary case. */
public final class BoundaryNightsTest {
    private static final int NONE = Cases.NONE, BAD = Cases.BAD, STATE = Cases.STATE, FULL = Cases.FULL;
    private static final int NO_WAY = Cases.NO_WAY, MIN = Cases.MIN, MAX = Cases.MAX;
    private static final String TEN = "oil 1;oil 2;oil 3;oil 4;oil 5;oil 6;oil 7;oil 8;oil 9;oil 0";

    public static void main(String[] args) {
        Cases.runAll(BoundaryNightsTest.class, 1, 6);
    }

    private static void due(String call, long got, long want) {
        Cases.due(call, got, want);
    }

    private static void nightDue(String text, int want) {
        Cases.nightDue(text, want);
    }

    // ---- promise 1: a new object

    static void p01_nobodyIsThere() {
        Cases.says("Nobody, no NIGHT.");
        LanternBridge x = new LanternBridge();
        due("count(0)", x.count(0), 0);
        for (int what = 0; what < 5; what++) due("of(0, " + what + ")", x.of(0, what), NONE);
        due("as(0, 0)", x.as(0, 0), NONE);
        due("act(0, 0, 1)", x.act(0, 0, 1), 0);
        due("quicker(0)", x.quicker(0), NONE);
        due("span(0, 0)", x.span(0, 0), NONE);
        due("chance(0, 1, 1, 0)", x.chance(0, 1, 1, 0), Cases.NO);
        due("image()", x.image(), 0);
    }

    static void p01_noSetButTheEmptyOneIsThere() {
        Cases.says("Nobody, no NIGHT.");
        LanternBridge x = new LanternBridge();
        due("going(1, 0, 0)", x.going(1, 0, 0), BAD);
        due("go(1)", x.go(1), BAD);
        due("least(1)", x.least(1), BAD);
        due("fewest(1)", x.fewest(1), BAD);
        due("first(1)", x.first(1), BAD);
        due("seen(1, 1)", x.seen(1, 1), BAD);
        due("book(1)", x.book(1), BAD);
    }

    static void p01_whatIsAskedOfNobody() {
        Cases.says("Nobody, no NIGHT.");
        LanternBridge x = new LanternBridge();
        due("least(0)", x.least(0), 0);
        due("fewest(0)", x.fewest(0), 0);
        due("first(0)", x.first(0), NO_WAY);
        due("by(0, 0)", x.by(0, 0), 0);
        due("by(999, 1)", x.by(999, 1), 0);
        due("leave()", x.leave(), NO_WAY);
        for (int rule = 0; rule < 4; rule++) {
            for (int what = 0; what < 3; what++) due("rule(" + rule + ", " + what + ")", x.rule(rule, what), 0);
        }
    }

    static void p01_noNightIsThere() {
        Cases.says("without one there are no CLAUSES");
        LanternBridge x = new LanternBridge();
        due("count(1)", x.count(1), 0);
        due("told(0)", x.told(0), 2);
        due("told(1)", x.told(1), 99);
        due("told(2)", x.told(2), 0);
        due("night()", Cases.night(x, "oil 1"), 0);
    }

    static void p01_theBanksAreEmpty() {
        Cases.says("THE LANTERN is on the near one at first; MINUTE 0, GOINGS 0.");
        LanternBridge x = new LanternBridge();
        for (int what = 3; what < 7; what++) due("told(" + what + ")", x.told(what), 0);
    }

    static void p01_noRowsNoSignsNoTraceNoImage() {
        Cases.says("Nobody, no NIGHT.");
        LanternBridge x = new LanternBridge();
        for (int what = 2; what < 6; what++) due("count(" + what + ")", x.count(what), 0);
        due("trace(0)", x.trace(0), NONE);
        due("looked(0)", x.looked(0), NO_WAY);
        due("looked(1)", x.looked(1), 0);
        due("undo()", x.undo(), STATE);
    }

    static void p01_objectsShareNothing() {
        Cases.says("Nobody, no NIGHT.");
        Cases.busy();
        LanternBridge x = new LanternBridge();
        for (int what = 0; what < 6; what++) due("count(" + what + ")", x.count(what), 0);
        for (int what = 2; what < 7; what++) due("told(" + what + ")", x.told(what), 0);
        due("trace(0)", x.trace(0), NONE);
        due("undo()", x.undo(), STATE);
    }

    // ---- promise 2: feed

    static void p02_aSignTooSmall() {
        Cases.says("A sign (0 .. 127) comes behind THE TAPE's: how many it has. BAD");
        LanternBridge x = new LanternBridge();
        due("feed(-1)", x.feed(-1), BAD);
        due("feed(MIN)", x.feed(MIN), BAD);
        due("feed('o' - 256): no byte is made of it", x.feed('o' - 256), BAD);
        due("count(4)", x.count(4), 0);
    }

    static void p02_aSignTooLarge() {
        Cases.says("A sign (0 .. 127) comes behind THE TAPE's: how many it has. BAD");
        LanternBridge x = new LanternBridge();
        due("feed(128)", x.feed(128), BAD);
        due("feed(MAX)", x.feed(MAX), BAD);
        due("feed('o' + 256): no byte is made of it", x.feed('o' + 256), BAD);
        due("count(4)", x.count(4), 0);
    }

    static void p02_theLeastSign() {
        Cases.says("A sign (0 .. 127)");
        LanternBridge x = new LanternBridge();
        due("feed(0)", x.feed(0), 1);
        due("count(4)", x.count(4), 1);
    }

    static void p02_theGreatestSign() {
        Cases.says("A sign (0 .. 127)");
        LanternBridge x = new LanternBridge();
        due("feed(127)", x.feed(127), 1);
        due("count(4)", x.count(4), 1);
    }

    static void p02_aHundredSigns() {
        Cases.says("THE TAPE (bytes, 100 at most)");
        LanternBridge x = new LanternBridge();
        for (int i = 1; i <= 100; i++) due("feed('o')", x.feed('o'), i);
        due("count(4)", x.count(4), 100);
    }

    static void p02_oneSignMoreThanAHundred() {
        Cases.says("THE TAPE (bytes, 100 at most)");
        LanternBridge x = new LanternBridge();
        for (int i = 1; i <= 100; i++) x.feed('o');
        due("feed('o')", x.feed('o'), FULL);
        due("feed(0)", x.feed(0), FULL);
        due("feed(127)", x.feed(127), FULL);
        due("count(4)", x.count(4), 100);
    }

    static void p02_badAheadOfFull() {
        Cases.says("BAD; FULL.");
        LanternBridge x = Cases.busyWithFullTape();
        due("feed(128)", x.feed(128), BAD);
        due("feed(-1)", x.feed(-1), BAD);
    }

    static void p02_aRefusedSignChangesNothing() {
        Cases.says("They change nothing.");
        Cases.refused("feed(-1)", Cases::busy, x -> x.feed(-1), BAD);
        Cases.refused("feed(128)", Cases::busy, x -> x.feed(128), BAD);
        Cases.refused("feed('o')", Cases::busyWithFullTape, x -> x.feed('o'), FULL);
    }

    static void p02_aFullTapeIsReadAsItWas() {
        Cases.says("They change nothing.");
        LanternBridge x = Cases.feed(new LanternBridge(), hundredSigns());
        due("feed(';')", x.feed(';'), FULL);
        due("night()", x.night(), 0);
        due("told(2)", x.told(2), 10);
    }

    static void p02_theEmptyTapeIsFedAgain() {
        Cases.says("THE TAPE, which is empty then");
        LanternBridge x = Cases.feed(new LanternBridge(), hundredSigns());
        x.night();
        for (int i = 1; i <= 100; i++) due("feed('o')", x.feed('o'), i);
        due("feed('o')", x.feed('o'), FULL);
    }

    /** A NIGHT of just a hundred signs. */
    private static String hundredSigns() {
        return "slow 11 p=10;" + "slow 1 p=10;".repeat(6) + "heavy 99;oil 10";
    }

    // ---- promise 3: night

    static void p03_theTapeIsEmptyThen() {
        Cases.says("THE TAPE, which is empty then, is a NIGHT, and holds: its number");
        LanternBridge x = new LanternBridge();
        due("night()", Cases.night(x, "oil 7"), 0);
        due("count(4)", x.count(4), 0);
        due("told(2)", x.told(2), 7);
        due("feed('o')", x.feed('o'), 1);
    }

    static void p03_theTapeIsEmptyBehindAFault() {
        Cases.says("THE TAPE, which is empty then");
        LanternBridge x = new LanternBridge();
        due("night()", Cases.night(x, "oil x"), -14);
        due("count(4)", x.count(4), 0);
        due("night()", Cases.night(x, "oil 7"), 0);
    }

    static void p03_anEmptyTape() {
        Cases.says("(the size, if it ends too early)");
        LanternBridge x = new LanternBridge();
        due("night()", x.night(), -10);
        due("count(1)", x.count(1), 0);
    }

    static void p03_aTapeOfAHundredSigns() {
        Cases.says("THE TAPE (bytes, 100 at most)");
        LanternBridge x = Cases.walkers(1);
        due("night()", Cases.night(x, hundredSigns()), 0);
        due("told(1)", x.told(1), 99);
        due("told(2)", x.told(2), 10);
    }

    static void p03_aTapeOfAHundredSignsThatEndsTooEarly() {
        Cases.says("(the size, if it ends too early)");
        nightDue(hundredSigns().substring(0, 98) + "1;", -110);
    }

    static void p03_aFaultAtTheHundredthSign() {
        Cases.says("FAULT: the place of the first byte with which no NIGHT can go on");
        nightDue(hundredSigns().substring(0, 99) + "x", -109);
    }

    static void p03_eachClauseThatEndsTooEarly() {
        Cases.says("(the size, if it ends too early)");
        for (String text : new String[] {"slow 7 (p=1)", "bar !(p=1)", "bears 7", "heavy 7", "oil 7"}) {
            for (int size = 0; size < text.length(); size++) nightDue(text.substring(0, size), -10 - size);
            nightDue(text, 0);
        }
    }

    static void p03_eachByteOfAClauseThatIsNone() {
        Cases.says("FAULT: the place of the first byte with which no NIGHT can go on");
        for (String text : new String[] {"slow 7 (p=1)", "bar !(p=1)", "bears 7", "heavy 7", "oil 7"}) {
            for (int at = 0; at < text.length(); at++) {
                for (char sign : new char[] {0, 127, 'x', 'P', ';', ','}) {
                    nightDue(text.substring(0, at) + sign + text.substring(at + 1), -10 - at);
                }
            }
        }
    }

    static void p03_wordsThatLackALetter() {
        Cases.says("slow n E; bar E; bears n; heavy n; oil n");
        String[] words = {"low 1 p=1", "sow 1 p=1", "slw 1 p=1", "slo 1 p=1", "ar p=1", "br p=1", "ba p=1", "ears 1", "bars 1",
            "bers 1", "beas 1", "bear 1", "eavy 1", "havy 1", "hevy 1", "heay 1", "heav 1", "il 1", "ol 1", "oi 1"};
        int[] places = {0, 1, 2, 3, 0, 1, 2, 0, 3, 2, 3, 4, 0, 1, 2, 3, 4, 0, 1, 2};
        for (int i = 0; i < words.length; i++) nightDue(words[i], -10 - places[i]);
    }

    static void p03_wordsOfALetterTooMany() {
        Cases.says("slow n E; bar E; bears n; heavy n; oil n");
        nightDue("sloww 1 p=1", -14);
        nightDue("barr p=1", -13);
        nightDue("bearss 1", -15);
        nightDue("heavyy 1", -15);
        nightDue("oill 1", -13);
    }

    static void p03_partsOfAnotherWord() {
        Cases.says("slow n E; bar E; bears n; heavy n; oil n");
        nightDue("slow 1", -16);
        nightDue("slow p=1", -15);
        nightDue("bar 1", -14);
        nightDue("bar 1 p=1", -14);
        nightDue("bears p=1", -16);
        nightDue("bears 1 p=1", -17);
        nightDue("heavy 1 p=1", -17);
        nightDue("oil 1 p=1", -15);
    }

    static void p03_theFirstOfTwoFaults() {
        Cases.says("the first byte with which no NIGHT can go on");
        nightDue("oil x;bar x", -14);
        nightDue("oil 1;bar x;x", -20);
    }

    static void p03_bytesBehindTheEnd() {
        Cases.says("FAULT: the place of the first byte with which no NIGHT can go on");
        nightDue("oil 7 ", -15);
        nightDue("oil 7x", -15);
        nightDue("bar p=1 ", -17);
        nightDue("bar p=1)", -17);
        nightDue("slow 1 p=1 ", -20);
    }

    static void p03_noClauseBetween() {
        Cases.says("CLAUSES, 10 at most, with ; between");
        nightDue(";", -10);
        nightDue(";oil 1", -10);
        nightDue("oil 1;", -16);
        nightDue("oil 1;;oil 1", -16);
        nightDue("oil 1; oil 1", -16);
        nightDue("oil 1 ;oil 1", -15);
        nightDue("oil 1oil 1", -15);
        nightDue("oil 1;oil 1", 0);
    }

    static void p03_tenClauses() {
        Cases.says("CLAUSES, 10 at most");
        nightDue(TEN, 0);
    }

    static void p03_elevenClauses() {
        Cases.says("CLAUSES, 10 at most");
        nightDue(TEN + ";oil 1", -10 - TEN.length());
        nightDue(TEN + ";x", -10 - TEN.length());
    }

    static void p03_tenClausesAndASign() {
        Cases.says("CLAUSES, 10 at most");
        nightDue(TEN + ";", -10 - TEN.length());
        nightDue(TEN + "x", -10 - TEN.length());
    }

    static void p03_allTenClausesCount() {
        Cases.says("CLAUSES, 10 at most");
        LanternBridge x = Cases.walkers(1);
        String text = "slow 1 b=0" + ";oil 1;oil 2;oil 3;oil 4;oil 5;oil 6;oil 7;oil 8" + ";slow 2 b=0";
        due("night() of \"" + text + "\"", Cases.night(x, text), 0);
        due("going(1, 0, 1)", x.going(1, 0, 1), 4);
    }

    static void p03_noBlank() {
        Cases.says("(one blank ahead of each part behind the word");
        nightDue("slow1 p=1", -14);
        nightDue("slow 1p=1", -16);
        nightDue("barp=1", -13);
        nightDue("bears1", -15);
        nightDue("heavy1", -15);
        nightDue("oil1", -13);
    }

    static void p03_twoBlanks() {
        Cases.says("(one blank ahead of each part behind the word");
        nightDue("slow  1 p=1", -15);
        nightDue("slow 1  p=1", -17);
        nightDue("bar  p=1", -14);
        nightDue("bears  1", -16);
        nightDue("heavy  1", -16);
        nightDue("oil  1", -14);
    }

    static void p03_blanksInAnE() {
        Cases.says("(one blank ahead of each part behind the word");
        nightDue("bar p =1", -15);
        nightDue("bar p= 1", -16);
        nightDue("bar p=1 &k=1", -17);
        nightDue("bar p=1& k=1", -18);
        nightDue("bar ( p=1)", -15);
        nightDue("bar ! p=1", -15);
    }

    static void p03_numbersOfOneAndTwoDigits() {
        Cases.says("n 1 or 2 digits, no 0 ahead of another");
        for (String n : new String[] {"0", "1", "9", "10", "90", "99"}) {
            LanternBridge x = new LanternBridge();
            String text = "bears " + n + ";heavy " + n + ";oil " + n;
            due("night() of \"" + text + "\"", Cases.night(x, text), 0);
            for (int what = 0; what < 3; what++) due("told(" + what + ") of \"" + text + "\"", x.told(what), Integer.parseInt(n));
            nightDue("slow " + n + " p=" + n, 0);
        }
    }

    static void p03_numbersOfThreeDigits() {
        Cases.says("n 1 or 2 digits");
        nightDue("bears 100", -18);
        nightDue("heavy 100", -18);
        nightDue("oil 100", -16);
        nightDue("slow 100 p=1", -17);
    }

    static void p03_zeroAheadOfAnother() {
        Cases.says("no 0 ahead of another");
        nightDue("bears 00", -17);
        nightDue("heavy 01", -17);
        nightDue("oil 09", -15);
        nightDue("slow 05 p=1", -16);
    }

    static void p03_noNumber() {
        Cases.says("n 1 or 2 digits");
        nightDue("bears /", -16);
        nightDue("bears :", -16);
        nightDue("bears -1", -16);
        nightDue("bears +1", -16);
        nightDue("bears 1/", -17);
        nightDue("bears 1:", -17);
        nightDue("bears ;", -16);
        nightDue("slow p=1", -15);
    }

    static void p03_numbersOfATest() {
        Cases.says("one of < = >, a number likewise");
        nightDue("bar p=0", 0);
        nightDue("bar p=99", 0);
        nightDue("bar p=100", -18);
        nightDue("bar p=00", -17);
        nightDue("bar p=01", -17);
        nightDue("bar p=", -16);
        nightDue("bar p=/", -16);
        nightDue("bar p=:", -16);
        nightDue("bar p=-1", -16);
    }

    static void p03_aTestOfNoLetterOrSign() {
        Cases.says("a TEST: p or k or w or n or b or q, one of < = >, a number likewise");
        for (char letter = 'a'; letter <= 'z'; letter++) {
            nightDue("bar " + letter + "=1", "pkwnbq".indexOf(letter) >= 0 ? 0 : -14);
        }
        for (char sign : new char[] {'<', '=', '>'}) nightDue("bar p" + sign + "1", 0);
        for (char sign : new char[] {';', '?', '!', '1', 'p', '&'}) nightDue("bar p" + sign + "1", -15);
        nightDue("bar p<=1", -16);
        nightDue("bar p==1", -16);
    }

    static void p03_anEThatIsEmpty() {
        Cases.says("E: T, or T|E. T: F, or F&T.");
        nightDue("bar ", -14);
        nightDue("bar ;oil 1", -14);
        nightDue("bar ()", -15);
        nightDue("bar !", -15);
        nightDue("bar |p=1", -14);
        nightDue("bar &p=1", -14);
        nightDue("bar p=1|", -18);
        nightDue("bar p=1&", -18);
        nightDue("bar p=1||p=1", -18);
        nightDue("bar p=1&|p=1", -18);
        nightDue("bar p=1p=1", -17);
        nightDue("bar p=1!p=1", -17);
        nightDue("bar p=1(p=1)", -17);
    }

    static void p03_bracketsThatAreNotClosed() {
        Cases.says("F: !F, (E), or a TEST");
        nightDue("bar (p=1", -18);
        nightDue("bar (p=1;oil 1", -18);
        nightDue("bar ((p=1)", -20);
        nightDue("bar (p=1))", -19);
    }

    static void p03_fiveOpen() {
        Cases.says("At most 5 of ! and ( are open");
        nightDue("bar !!!!!p=1", 0);
        nightDue("bar (((((p=1)))))", 0);
        nightDue("bar !(!(!p=1))", 0);
        nightDue("bar (!(!(p=1)))", 0);
    }

    static void p03_sixOpen() {
        Cases.says("At most 5 of ! and ( are open");
        nightDue("bar !!!!!!p=1", -19);
        nightDue("bar ((((((p=1))))))", -19);
        nightDue("bar !!!!!(p=1)", -19);
        nightDue("bar (((((!p=1)))))", -19);
        nightDue("bar !(!(!(p=1)))", -19);
        nightDue("bar p=1|(p=1&!(!(!p=1)))", -27);
    }

    static void p03_aBracketIsOpenTillItsEnd() {
        Cases.says("(a ( till its ) , a ! till its F ends)");
        nightDue("bar (((((p=1)))))&(((((p=1)))))", 0);
        nightDue("bar ((((p=1|(p=1)|(p=1)))))", 0);
        nightDue("bar ((((p=1|(p=1)|((p=1))))))", -29);
        nightDue("bar ((((p=1&(p=1&!p=1)))))", -27);
    }

    static void p03_aNotIsOpenTillItsFEnds() {
        Cases.says("(a ( till its ) , a ! till its F ends)");
        nightDue("bar !!!!!p=1&!!!!!p=1|!!!!!p=1", 0);
        nightDue("bar !!!!(p=1)&!!!!(p=1)", 0);
        nightDue("bar !!!!(p=1&p=1)|!!!!!!p=1", -33);
        nightDue("bar !(((!p=1&!p=1)))", 0);
        nightDue("bar !(((p=1&!p=1|!!p=1)))", -28);
        nightDue("bar !!!!(p=1&!p=1)", -23);
    }

    static void p03_openOnesEndWithTheClause() {
        Cases.says("At most 5 of ! and ( are open");
        nightDue("bar !!!!!p=1;bar !!!!!p=1;bar (((((p=1)))))", 0);
    }

    static void p03_behindAFaultTheOneThatHeldHolds() {
        Cases.says("-10 less the FAULT (the one that held holds)");
        LanternBridge x = Cases.walkersIn("bears 3;heavy 50;oil 40;slow 6 p=0;bar p=1", 1, 2);
        due("night()", Cases.night(x, "bears 1;heavy 1;oil 1;slow 9 p=0;x"), -43);
        due("told(0)", x.told(0), 3);
        due("told(1)", x.told(1), 50);
        due("told(2)", x.told(2), 40);
        due("going(1, 0, 1)", x.going(1, 0, 1), 7);
        due("going(2, 0, 0)", x.going(2, 0, 0), 0);
    }

    static void p03_behindAFaultNoneHoldsIfNoneHeld() {
        Cases.says("-10 less the FAULT (the one that held holds)");
        LanternBridge x = new LanternBridge();
        due("night()", Cases.night(x, "bears 9;heavy 9;oil 9;"), -32);
        due("told(0)", x.told(0), 2);
        due("told(1)", x.told(1), 99);
        due("told(2)", x.told(2), 0);
    }

    static void p03_aFaultIsNoNight() {
        Cases.says("NIGHTS are numbered from 0 on, 5 at most");
        LanternBridge x = new LanternBridge();
        for (int i = 0; i < 6; i++) due("night()", Cases.night(x, "x"), -10);
        due("count(1)", x.count(1), 0);
        due("night()", Cases.night(x, "oil 1"), 0);
        due("night()", Cases.night(x, "x"), -10);
        due("night()", Cases.night(x, "oil 1"), 1);
    }

    static void p03_fiveNights() {
        Cases.says("NIGHTS are numbered from 0 on, 5 at most");
        LanternBridge x = new LanternBridge();
        for (int i = 0; i < 5; i++) due("night()", Cases.night(x, "oil " + i), i);
        due("count(1)", x.count(1), 5);
        due("told(2)", x.told(2), 4);
    }

    static void p03_aSixthNight() {
        Cases.says("FULL (THE TAPE stays).");
        LanternBridge x = Cases.busyWithFiveNights();
        due("night()", x.night(), FULL);
        due("night() again", x.night(), FULL);
        due("count(1)", x.count(1), 5);
        due("told(2): the fifth holds", x.told(2), 50);
    }

    static void p03_fullTheTapeStays() {
        Cases.says("FULL (THE TAPE stays).");
        LanternBridge x = Cases.busyWithFiveNights();
        due("count(4) ahead", x.count(4), 5);
        x.night();
        due("count(4)", x.count(4), 5);
        due("feed('1')", x.feed('1'), 6);
    }

    static void p03_fullChangesNothing() {
        Cases.says("They change nothing.");
        Cases.refused("night()", Cases::busyWithFiveNights, x -> x.night(), FULL);
    }

    static void p03_fullAheadOfAFault() {
        Cases.says("FULL (THE TAPE stays).");
        LanternBridge x = Cases.busyWithFiveNights();
        Cases.feed(x, "x");
        due("night()", x.night(), FULL);
        due("count(4)", x.count(4), 6);
    }

    static void p03_fullAndAnEmptyTape() {
        Cases.says("FULL (THE TAPE stays).");
        LanternBridge x = new LanternBridge();
        for (int i = 0; i < 5; i++) Cases.night(x, "oil 1");
        due("night()", x.night(), FULL);
        due("count(4)", x.count(4), 0);
    }

    static void p03_theNewestAloneHolds() {
        Cases.says("the newest one holds");
        LanternBridge x = Cases.walkersIn("bears 1;heavy 9;oil 9;slow 5 p=0;bar p=1", 1, 2);
        due("night()", Cases.night(x, "slow 3 p=1"), 1);
        due("told(0)", x.told(0), 2);
        due("told(1)", x.told(1), 99);
        due("told(2)", x.told(2), 0);
        due("going(1, 0, 1)", x.going(1, 0, 1), 1);
        due("going(2, 0, 0)", x.going(2, 0, 0), 1);
        due("going(2, 0, 1)", x.going(2, 0, 1), 5);
    }

    static void p03_withoutANightThereAreNoClauses() {
        Cases.says("without one there are no CLAUSES");
        LanternBridge x = Cases.walkers(3, 4, 5);
        due("going(3, 0, 0)", x.going(3, 0, 0), 1);
        due("going(7, 0, 0)", x.going(7, 0, 0), 0);
        due("going(3, 0, 1)", x.going(3, 0, 1), 4);
    }

    static void p03_ofSeveralTheLastHolds() {
        Cases.says("Of bears (2 without), heavy (99), oil (0: there is no end of it) the last n holds.");
        LanternBridge x = new LanternBridge();
        String text = "bears 5;heavy 60;oil 70;bears 1;heavy 0;oil 0";
        due("night() of \"" + text + "\"", Cases.night(x, text), 0);
        due("told(0)", x.told(0), 1);
        due("told(1)", x.told(1), 0);
        due("told(2)", x.told(2), 0);
    }

    static void p03_eachIsAsWithoutIfNotTold() {
        Cases.says("Of bears (2 without), heavy (99), oil (0: there is no end of it) the last n holds.");
        String[] texts = {"bears 7", "heavy 7", "oil 7"};
        int[] without = {2, 99, 0};
        for (int i = 0; i < 3; i++) {
            LanternBridge x = new LanternBridge();
            Cases.night(x, texts[i]);
            for (int what = 0; what < 3; what++) {
                due("told(" + what + ") of \"" + texts[i] + "\"", x.told(what), what == i ? 7 : without[what]);
            }
        }
    }

    static void p03_theLetterPAtItsEdges() {
        Cases.says("of one in a GOING p their number");
        edgesDue("p", 3, 8, 0);
        edgesDue("p", 0, 1, 0);
        edgesDue("p", 5, 32, 0);
    }

    static void p03_theLetterKAtItsEdges() {
        Cases.says("k their KIND");
        edgesDue("k", 0, 1, 0);
        edgesDue("k", 6, 32, 0);
        edgesDue("k", 3, 4, 0);
    }

    static void p03_theLetterWAtItsEdges() {
        Cases.says("w their WEIGHT");
        edgesDue("w", 0, 1, 0);
        edgesDue("w", 9, 32, 0);
        edgesDue("w", 4, 8, 0);
    }

    static void p03_theLetterNAtItsEdges() {
        Cases.says("n how many go (that one, too)");
        edgesDue("n", 1, 4, 0);
        edgesDue("n", 2, 5, 0);
        edgesDue("n", 6, 63, 1);
    }

    static void p03_theLetterBAtItsEdges() {
        Cases.says("b 0 over, 1 back");
        edgesDue("b", 0, 4, 0);
        edgesDue("b", 1, 4, 1);
    }

    static void p03_theLetterQAtItsEdges() {
        Cases.says("q the least number of the others who go (9: none do)");
        LanternBridge x = six("slow 50 p=0&q=9");
        due("going(1, 0, 1): none do", x.going(1, 0, 1), 51);
        due("going(3, 0, 1)", x.going(3, 0, 1), 1);
        x = six("slow 50 p=0&q=1");
        due("going(3, 0, 1)", x.going(3, 0, 1), 51);
        due("going(47, 0, 1): the least", x.going(47, 0, 1), 51);
        due("going(61, 0, 1)", x.going(61, 0, 1), 1);
        x = six("slow 50 p=5&q=0");
        due("going(33, 0, 1)", x.going(33, 0, 1), 51);
        due("going(34, 0, 1)", x.going(34, 0, 1), 1);
        due("going(32, 0, 1)", x.going(32, 0, 1), 1);
        x = six("slow 50 p=0&q=5");
        due("going(33, 0, 1)", x.going(33, 0, 1), 51);
        x = six("slow 50 p=0&q>8");
        due("going(1, 0, 1): none do", x.going(1, 0, 1), 51);
        x = six("slow 50 p=0&q<9");
        due("going(1, 0, 1): none do", x.going(1, 0, 1), 1);
        due("going(33, 0, 1)", x.going(33, 0, 1), 51);
    }

    static void p03_bothEitherAndNot() {
        Cases.says("E: T, or T|E. T: F, or F&T. F: !F, (E), or a TEST");
        String yes = "n=1", no = "n=2";
        for (int i = 0; i < 4; i++) {
            boolean a = (i & 1) == 1, b = (i & 2) == 2;
            String left = a ? yes : no, right = b ? yes : no;
            edgeDue(left + "&" + right, 1, 0, a && b);
            edgeDue(left + "|" + right, 1, 0, a || b);
            edgeDue("!" + left + "&" + right, 1, 0, !a && b);
            edgeDue("!" + left + "|" + right, 1, 0, !a || b);
            edgeDue("!(" + left + "&" + right + ")", 1, 0, !(a && b));
            edgeDue("!(" + left + "|" + right + ")", 1, 0, !(a || b));
            edgeDue("!!" + left + "&!" + right, 1, 0, a && !b);
        }
    }

    static void p03_bothAheadOfEither() {
        Cases.says("E: T, or T|E. T: F, or F&T.");
        String yes = "n=1", no = "n=2";
        for (int i = 0; i < 8; i++) {
            boolean a = (i & 1) == 1, b = (i & 2) == 2, c = (i & 4) == 4;
            String x = a ? yes : no, y = b ? yes : no, z = c ? yes : no;
            edgeDue(x + "|" + y + "&" + z, 1, 0, a || b && c);
            edgeDue(x + "&" + y + "|" + z, 1, 0, a && b || c);
            edgeDue("(" + x + "|" + y + ")&" + z, 1, 0, (a || b) && c);
            edgeDue(x + "&(" + y + "|" + z + ")", 1, 0, a && (b || c));
            edgeDue(x + "|" + y + "|" + z, 1, 0, a || b || c);
            edgeDue(x + "&" + y + "&" + z, 1, 0, a && b && c);
        }
    }

    /** Six of PACE 1, v 0: WALKER, QUICK, TIED, WALKER, LEADING, TIRING, of WEIGHT 0, 1, 2, 4, 5, 9. */
    private static LanternBridge six(String text) {
        int[] kinds = {0, 1, 3, 0, 4, 6}, weights = {0, 1, 2, 4, 5, 9};
        LanternBridge x = new LanternBridge();
        for (int i = 0; i < 6; i++) x.person(kinds[i], 0, 1, weights[i]);
        due("night() of \"" + text + "\"", Cases.night(x, text), 0);
        return x;
    }

    /** Of a set and a way, for whom a letter stands for value: its TESTS with the numbers beside value. */
    private static void edgesDue(String letter, int value, int set, int way) {
        for (int n = Math.max(0, value - 1); n <= value + 1; n++) {
            edgeDue(letter + "<" + n, set, way, value < n);
            edgeDue(letter + "=" + n, set, way, value == n);
            edgeDue(letter + ">" + n, set, way, value > n);
        }
        edgeDue(letter + "<99", set, way, true);
        edgeDue(letter + ">99", set, way, false);
    }

    private static void edgeDue(String e, int set, int way, boolean holds) {
        LanternBridge x = six("bears 6;bar " + e);
        due("going(" + set + ", " + way + ", 0) in \"bar " + e + "\"", x.going(set, way, 0), holds ? 0 : 1);
    }

    // ---- promise 4: person

    static void p04_aKindThatIsNone() {
        Cases.says("NONE: kind");
        LanternBridge x = new LanternBridge();
        for (int kind : new int[] {-1, 7, MIN, MAX}) due("person(" + kind + ", 0, 1, 0)", x.person(kind, 0, 1, 0), NONE);
        due("count(0)", x.count(0), 0);
    }

    static void p04_eachKind() {
        Cases.says("of a KIND: 0 WALKER; 1 QUICK, 2 LAME, 3 TIED under WALKER; 4 LEADING under QUICK; 5 CARRIED under LAME; 6 TIRING under TIED");
        for (int kind = 0; kind <= 6; kind++) {
            LanternBridge x = new LanternBridge();
            due("person(" + kind + ", 0, 1, 0)", x.person(kind, 0, 1, 0), 0);
            due("of(0, 0)", x.of(0, 0), kind);
        }
    }

    static void p04_vTooSmallOrTooLarge() {
        Cases.says("a number v (0 .. 9)");
        LanternBridge x = new LanternBridge();
        for (int v : new int[] {-1, 10, MIN, MAX}) due("person(0, " + v + ", 1, 0)", x.person(0, v, 1, 0), BAD);
        due("person(0, 0, 1, 0)", x.person(0, 0, 1, 0), 0);
        due("person(0, 9, 1, 0)", x.person(0, 9, 1, 0), 1);
        due("of(1, 1)", x.of(1, 1), 9);
    }

    static void p04_paceTooSmallOrTooLarge() {
        Cases.says("30), a WEIGHT (0 .. 9)");
        LanternBridge x = new LanternBridge();
        for (int pace : new int[] {0, 31, -1, MIN, MAX}) due("person(0, 0, " + pace + ", 0)", x.person(0, 0, pace, 0), BAD);
        due("person(0, 0, 1, 0)", x.person(0, 0, 1, 0), 0);
        due("person(0, 0, 30, 0)", x.person(0, 0, 30, 0), 1);
        due("of(1, 2)", x.of(1, 2), 30);
    }

    static void p04_weightTooSmallOrTooLarge() {
        Cases.says("a WEIGHT (0 .. 9)");
        LanternBridge x = new LanternBridge();
        for (int weight : new int[] {-1, 10, MIN, MAX}) due("person(0, 0, 1, " + weight + ")", x.person(0, 0, 1, weight), BAD);
        due("person(0, 0, 1, 0)", x.person(0, 0, 1, 0), 0);
        due("person(0, 0, 1, 9)", x.person(0, 0, 1, 9), 1);
        due("of(1, 3)", x.of(1, 3), 9);
    }

    static void p04_sixPeople() {
        Cases.says("PEOPLE are numbered from 0 on, 6 at most");
        LanternBridge x = new LanternBridge();
        for (int i = 0; i < 6; i++) due("person(0, 0, 1, 0)", x.person(0, 0, 1, 0), i);
        due("count(0)", x.count(0), 6);
    }

    static void p04_aSeventh() {
        Cases.says("BAD: v, pace, weight; FULL.");
        LanternBridge x = Cases.walkers(1, 2, 3, 4, 5, 6);
        due("person(0, 0, 1, 0)", x.person(0, 0, 1, 0), FULL);
        due("count(0)", x.count(0), 6);
        due("of(5, 2)", x.of(5, 2), 6);
    }

    static void p04_noneAheadOfBad() {
        Cases.says("NONE: kind; BAD: v, pace, weight; FULL.");
        LanternBridge x = new LanternBridge();
        due("person(7, 10, 1, 0)", x.person(7, 10, 1, 0), NONE);
        due("person(-1, 0, 0, 0)", x.person(-1, 0, 0, 0), NONE);
        due("person(7, 0, 1, 10)", x.person(7, 0, 1, 10), NONE);
    }

    static void p04_noneAheadOfFull() {
        Cases.says("NONE: kind; BAD: v, pace, weight; FULL.");
        LanternBridge x = Cases.walkers(1, 2, 3, 4, 5, 6);
        due("person(7, 0, 1, 0)", x.person(7, 0, 1, 0), NONE);
        due("person(-1, 10, 1, 0)", x.person(-1, 10, 1, 0), NONE);
    }

    static void p04_badAheadOfFull() {
        Cases.says("NONE: kind; BAD: v, pace, weight; FULL.");
        LanternBridge x = Cases.walkers(1, 2, 3, 4, 5, 6);
        due("person(0, 10, 1, 0)", x.person(0, 10, 1, 0), BAD);
        due("person(0, 0, 31, 0)", x.person(0, 0, 31, 0), BAD);
        due("person(0, 0, 1, 10)", x.person(0, 0, 1, 10), BAD);
    }

    static void p04_aRefusedOneChangesNothing() {
        Cases.says("They change nothing.");
        Cases.refused("person(7, 0, 1, 0)", Cases::busy, x -> x.person(7, 0, 1, 0), NONE);
        Cases.refused("person(0, 10, 1, 0)", Cases::busy, x -> x.person(0, 10, 1, 0), BAD);
        Cases.refused("person(0, 0, 0, 0)", Cases::busy, x -> x.person(0, 0, 0, 0), BAD);
        Cases.refused("person(0, 0, 1, -1)", Cases::busy, x -> x.person(0, 0, 1, -1), BAD);
        Cases.refused("person(0, 0, 1, 0)", Cases::busyWithSixPeople, x -> x.person(0, 0, 1, 0), FULL);
    }

    static void p04_whoComesCountsAtOnce() {
        Cases.says("One of the PEOPLE comes: their number.");
        LanternBridge x = Cases.walkers(4);
        due("going(1, 0, 1)", x.going(1, 0, 1), 4);
        due("person(0, 0, 7, 0)", x.person(0, 0, 7, 0), 1);
        due("going(2, 0, 1)", x.going(2, 0, 1), 7);
        due("least(3)", x.least(3), 7);
        due("person(4, 0, 1, 0)", x.person(4, 0, 1, 0), 2);
        due("going(6, 0, 1): led", x.going(6, 0, 1), 6);
    }

    static void p04_allComeOnTheNearBank() {
        Cases.says("all come on the near one");
        LanternBridge x = Cases.walkers(1);
        x.go(1);
        due("person(0, 0, 2, 0)", x.person(0, 0, 2, 0), 1);
        due("of(1, 4)", x.of(1, 4), 0);
        due("told(6)", x.told(6), 1);
        due("told(5): the lantern stays", x.told(5), 1);
    }

    // ---- promise 5: of

    static void p05_oneWhoIsNotThere() {
        Cases.says("NONE there is no such one of the PEOPLE, KIND, rule, what, part, i");
        LanternBridge x = Cases.walkers(1, 2);
        for (int person : new int[] {-1, 2, 6, MIN, MAX}) {
            for (int what = 0; what < 5; what++) due("of(" + person + ", " + what + ")", x.of(person, what), NONE);
        }
        due("of(1, 2)", x.of(1, 2), 2);
    }

    static void p05_theSixthAndASeventh() {
        Cases.says("PEOPLE are numbered from 0 on, 6 at most");
        LanternBridge x = Cases.walkers(1, 2, 3, 4, 5, 6);
        due("of(5, 2)", x.of(5, 2), 6);
        due("of(6, 2)", x.of(6, 2), NONE);
    }

    static void p05_whatThatIsNone() {
        Cases.says("what 0 KIND, 1 v, 2 PACE, 3 WEIGHT, 4 the bank. NONE.");
        LanternBridge x = Cases.walkers(1);
        for (int what : new int[] {-1, 5, MIN, MAX}) due("of(0, " + what + ")", x.of(0, what), NONE);
    }

    static void p05_neitherIs() {
        Cases.says("NONE.");
        due("of(1, 5)", Cases.walkers(1).of(1, 5), NONE);
    }

    static void p05_theBankOverAndBack() {
        Cases.says("BANKS: near (0), far (1)");
        LanternBridge x = Cases.walkers(1, 2);
        due("of(1, 4)", x.of(1, 4), 0);
        x.go(2);
        due("of(1, 4) over", x.of(1, 4), 1);
        due("of(0, 4) over", x.of(0, 4), 0);
        x.go(2);
        due("of(1, 4) back", x.of(1, 4), 0);
    }

    static void p05_itChangesNothing() {
        Cases.says("They change nothing.");
        Cases.refused("of(3, 0)", Cases::busy, x -> x.of(3, 0), NONE);
        Cases.refused("of(0, 5)", Cases::busy, x -> x.of(0, 5), NONE);
        Cases.changesNothing("of(2, 2)", Cases::busy, x -> x.of(2, 2));
    }

    // ---- promise 6: told

    static void p06_whatThatIsNone() {
        Cases.says("What 0 bears, 1 heavy, 2 oil, 3 MINUTE, 4 GOINGS, 5 the bank of THE LANTERN, 6 who is on the far bank (bits). NONE.");
        LanternBridge x = Cases.walkers(1);
        for (int what : new int[] {-1, 7, MIN, MAX}) due("told(" + what + ")", x.told(what), NONE);
    }

    static void p06_withoutANight() {
        Cases.says("Of bears (2 without), heavy (99), oil (0: there is no end of it) the last n holds.");
        LanternBridge x = Cases.walkers(1);
        due("told(0)", x.told(0), 2);
        due("told(1)", x.told(1), 99);
        due("told(2)", x.told(2), 0);
    }

    static void p06_theMostAndTheLeastOfANight() {
        Cases.says("n 1 or 2 digits");
        for (int n : new int[] {0, 99}) {
            LanternBridge x = Cases.walkersIn("bears " + n + ";heavy " + n + ";oil " + n, 1);
            for (int what = 0; what < 3; what++) due("told(" + what + ")", x.told(what), n);
        }
    }

    static void p06_beforeTheFirstGoing() {
        Cases.says("THE LANTERN is on the near one at first; MINUTE 0, GOINGS 0.");
        LanternBridge x = Cases.walkers(1, 2);
        for (int what = 3; what < 7; what++) due("told(" + what + ")", x.told(what), 0);
    }

    static void p06_overAndBack() {
        Cases.says("3 MINUTE, 4 GOINGS, 5 the bank of THE LANTERN, 6 who is on the far bank (bits)");
        LanternBridge x = Cases.walkers(3, 4);
        x.go(3);
        int[] over = {4, 1, 1, 3}, back = {7, 2, 0, 2};
        for (int what = 3; what < 7; what++) due("told(" + what + ") over", x.told(what), over[what - 3]);
        x.go(1);
        for (int what = 3; what < 7; what++) due("told(" + what + ") back", x.told(what), back[what - 3]);
    }

    static void p06_allSixOnTheFarBank() {
        Cases.says("6 who is on the far bank (bits)");
        LanternBridge x = Cases.walkersIn("bears 6", 1, 1, 1, 1, 1, 1);
        x.go(63);
        due("told(6)", x.told(6), 63);
    }

    static void p06_aRefusedGoingIsNotTold() {
        Cases.says("They change nothing.");
        LanternBridge x = Cases.walkers(3, 4, 5);
        due("go(7)", x.go(7), STATE);
        for (int what = 3; what < 7; what++) due("told(" + what + ")", x.told(what), 0);
    }

    static void p06_itChangesNothing() {
        Cases.says("They change nothing.");
        Cases.refused("told(7)", Cases::busy, x -> x.told(7), NONE);
        Cases.refused("told(-1)", Cases::busy, x -> x.told(-1), NONE);
        Cases.changesNothing("told(3)", Cases::busy, x -> x.told(3));
    }
}
