/** Promises 13 to 20, worth, rules, seen, chances, books: a test for each sentence that names a boundary case. */
public final class BoundaryWorthTest {
    private static final int NONE = Cases.NONE, BAD = Cases.BAD, FULL = Cases.FULL, NO_WAY = Cases.NO_WAY;
    private static final int MIN = Cases.MIN, MAX = Cases.MAX;
    private static final long NO = Cases.NO;
    /** No numbers of PEOPLE, where 0, 1 and 2 are there; a shift by 32 would be one by 0. */
    private static final int[] NOBODY = {-1, 3, 6, 32, 33, -32, MIN, MAX};
    /** No sets, where the PEOPLE are 0, 1 and 2; -1 is told apart by some calls. */
    private static final int[] NO_SETS = {8, 9, 15, 16, 32, 64, 65, 1 << 30, MAX, MIN, MIN + 1, -2, -8};

    public static void main(String[] args) {
        Cases.runAll(BoundaryWorthTest.class, 13, 20);
    }

    private static void due(String call, long got, long want) {
        Cases.due(call, got, want);
    }

    private static LanternBridge one(int kind, int v, int pace) {
        LanternBridge x = new LanternBridge();
        x.person(kind, v, pace, 5);
        return x;
    }

    // ---- promise 13: quicker

    static void p13_oneWhoIsNotThere() {
        Cases.says("QUICKER; -5. NONE.");
        LanternBridge x = Cases.walkers(1, 2, 3);
        for (int person : NOBODY) due("quicker(" + person + ")", x.quicker(person), NONE);
        due("quicker(0) of nobody", new LanternBridge().quicker(0), NONE);
    }

    static void p13_noneAheadOfNoLeast() {
        Cases.says("QUICKER; -5. NONE.");
        LanternBridge x = Cases.walkersIn("bears 0", 2, 3);
        due("quicker(2)", x.quicker(2), NONE);
        due("quicker(-1)", x.quicker(-1), NONE);
    }

    static void p13_paceIsOne() {
        Cases.says("(0: it is 1; -5: there is no LEAST for all)");
        LanternBridge x = Cases.walkers(1, 2);
        due("quicker(0)", x.quicker(0), 0);
        due("quicker(0) alone", Cases.walkers(1).quicker(0), 0);
    }

    static void p13_paceIsOneAheadOfNoLeast() {
        Cases.says("(0: it is 1; -5: there is no LEAST for all)");
        LanternBridge x = Cases.walkersIn("bears 1", 1, 2);
        due("quicker(0)", x.quicker(0), 0);
    }

    static void p13_paceIsOneButTakesMore() {
        Cases.says("(0: it is 1; -5: there is no LEAST for all)");
        LanternBridge x = Cases.walkersIn("slow 9 p=0", 1);
        due("quicker(0)", x.quicker(0), 0);
        due("quicker(0) of a LAME one", one(2, 9, 1).quicker(0), 0);
    }

    static void p13_paceIsTwoOrThirty() {
        Cases.says("by how much LEAST for all is less, if PACE of that one is 1 less");
        due("quicker(0) of 2", Cases.walkers(2).quicker(0), 1);
        due("quicker(0) of 30", Cases.walkers(30).quicker(0), 1);
    }

    static void p13_noLeast() {
        Cases.says("-5: there is no LEAST for all");
        due("quicker(0), bears 0", Cases.walkersIn("bears 0", 2).quicker(0), NO_WAY);
        due("quicker(1), bears 1", Cases.walkersIn("bears 1", 1, 2).quicker(1), NO_WAY);
        LanternBridge x = Cases.walkersIn("bar b=1", 2, 2, 3);
        x.go(3);
        due("quicker(2), nobody comes back", x.quicker(2), NO_WAY);
    }

    static void p13_noGoingIsNeeded() {
        Cases.says("goes on from how all is");
        LanternBridge x = Cases.walkers(7, 8);
        x.go(3);
        due("quicker(0)", x.quicker(0), 0);
        due("quicker(1)", x.quicker(1), 0);
    }

    static void p13_byMoreThanOne() {
        Cases.says("by how much LEAST for all is less");
        LanternBridge x = Cases.walkers(1, 2, 5, 10);
        due("quicker(1): 17 is 14", x.quicker(1), 3);
        due("quicker(2)", x.quicker(2), 0);
    }

    static void p13_oneMinuteIsTheLeast() {
        Cases.says("1 at least.");
        due("quicker(0) of a QUICK one, 2 less 9", one(1, 9, 2).quicker(0), 0);
        due("quicker(0) of a QUICK one, 10 less 9", one(1, 9, 10).quicker(0), 0);
        due("quicker(0) of a QUICK one, 11 less 9", one(1, 9, 11).quicker(0), 1);
    }

    static void p13_itChangesNothing() {
        Cases.says("and changes nothing");
        Cases.refused("quicker(3)", Cases::busy, x -> x.quicker(3), NONE);
        Cases.refused("quicker(-1)", Cases::busy, x -> x.quicker(-1), NONE);
        for (int i = 0; i < 3; i++) {
            int person = i;
            Cases.changesNothing("quicker(" + i + ")", Cases::busy, x -> x.quicker(person));
        }
    }

    // ---- promise 14: leave

    static void p14_nobodyIsThere() {
        Cases.says("-5: nobody is there, or by none there is a LEAST");
        due("leave()", new LanternBridge().leave(), NO_WAY);
    }

    static void p14_byNoneThereIsALeast() {
        Cases.says("-5: nobody is there, or by none there is a LEAST");
        due("leave(), bears 0", Cases.walkersIn("bears 0", 1, 2).leave(), NO_WAY);
        due("leave(), bears 1", Cases.walkersIn("bears 1", 1, 2, 3).leave(), NO_WAY);
    }

    static void p14_oneAlone() {
        Cases.says("LEAST for all others is least");
        due("leave()", Cases.walkers(7).leave(), 0);
        due("leave(), bears 0: nobody else is to go", Cases.walkersIn("bears 0", 7).leave(), 0);
    }

    static void p14_byOneThereIsALeast() {
        Cases.says("-5: nobody is there, or by none there is a LEAST");
        due("leave(), bears 1", Cases.walkersIn("bears 1", 3, 2).leave(), 0);
        due("leave(), 1 is barred", Cases.walkersIn("bar p=1", 3, 2).leave(), 1);
        due("leave(), 0 is barred", Cases.walkersIn("bar p=0", 3, 2, 2).leave(), 0);
    }

    static void p14_ofSeveralTheLeast() {
        Cases.says("(of several the least;");
        due("leave() of 4, 4", Cases.walkers(4, 4).leave(), 0);
        due("leave() of 1, 2, 9, 9", Cases.walkers(1, 2, 9, 9).leave(), 2);
    }

    static void p14_theLeftOneHasTheLantern() {
        Cases.says("if that one went nowhere");
        LanternBridge x = Cases.walkers(1, 2);
        x.go(1);
        due("leave(): 0 can't be left", x.leave(), 1);
        LanternBridge y = Cases.walkers(2, 1, 9);
        y.go(1);
        due("leave(): 0 can't be left, by 2 it is 2 and 2", y.leave(), 2);
    }

    static void p14_allAreThere() {
        Cases.says("goes on from how all is");
        LanternBridge x = Cases.walkers(3, 2);
        x.go(3);
        due("leave()", x.leave(), 0);
    }

    static void p14_noEndOfOil() {
        Cases.says("knows no end of oil");
        due("leave()", Cases.walkersIn("oil 1", 1, 2, 5, 10).leave(), 3);
    }

    static void p14_itChangesNothing() {
        Cases.says("and changes nothing");
        Cases.changesNothing("leave()", Cases::busy, x -> x.leave());
    }

    // ---- promise 15: rule

    static void p15_aRuleThatIsNone() {
        Cases.says("RULES (rule 0 .. 3)");
        LanternBridge x = Cases.walkers(1, 2);
        for (int rule : new int[] {-1, 4, MIN, MAX}) {
            for (int what = 0; what < 3; what++) due("rule(" + rule + ", " + what + ")", x.rule(rule, what), NONE);
        }
    }

    static void p15_whatThatIsNone() {
        Cases.says("what 0 MINUTES, 1 how many GOINGS, 2 LOSES; -5. NONE.");
        LanternBridge x = Cases.walkers(1, 2);
        for (int what : new int[] {-1, 3, MIN, MAX}) {
            for (int rule = 0; rule < 4; rule++) due("rule(" + rule + ", " + what + ")", x.rule(rule, what), NONE);
        }
        due("rule(4, 3)", x.rule(4, 3), NONE);
    }

    static void p15_noneAheadOfNoWay() {
        Cases.says("NONE.");
        LanternBridge x = Cases.walkersIn("bears 0", 1, 2);
        due("rule(4, 0)", x.rule(4, 0), NONE);
        due("rule(0, 3)", x.rule(0, 3), NONE);
        due("rule(0, 0)", x.rule(0, 0), NO_WAY);
    }

    private static void rulesDue(String where, LanternBridge x, int[] minutes, int goings) {
        for (int rule = 0; rule < 4; rule++) {
            due("rule(" + rule + ", 0), " + where, x.rule(rule, 0), minutes[rule]);
            due("rule(" + rule + ", 1), " + where, x.rule(rule, 1), goings);
        }
    }

    static void p15_nobodyIsOnTheNearBank() {
        Cases.says("as long as somebody is on the near bank");
        rulesDue("nobody", new LanternBridge(), new int[4], 0);
        LanternBridge x = Cases.walkers(3, 4);
        x.go(3);
        rulesDue("all are over", x, new int[4], 0);
        for (int rule = 0; rule < 4; rule++) due("rule(" + rule + ", 2)", x.rule(rule, 2), 0);
        Cases.night(x, "bears 0");
        rulesDue("all are over, bears 0", x, new int[4], 0);
    }

    static void p15_oneIsOnTheNearBank() {
        Cases.says("(only one, if that is one)");
        rulesDue("one", Cases.walkers(4), new int[] {4, 4, 4, 4}, 1);
        rulesDue("one, bears 1", Cases.walkersIn("bears 1", 4), new int[] {4, 4, 4, 4}, 1);
    }

    static void p15_twoAreOnTheNearBank() {
        Cases.says("the quickest one on the near bank, and the slowest one there");
        rulesDue("two", Cases.walkers(4, 9), new int[] {9, 9, 9, 9}, 1);
        rulesDue("two of one PACE", Cases.walkers(4, 4), new int[] {4, 4, 4, 4}, 1);
    }

    static void p15_theLanternIsFar() {
        Cases.says("If THE LANTERN is on the far bank, the quickest who is there goes back alone");
        LanternBridge x = Cases.walkers(7, 3, 5);
        x.go(5);
        rulesDue("5 back, 3 and 5 over", x, new int[] {10, 10, 10, 10}, 2);
    }

    static void p15_ofOnePaceTheLeastNumberFirst() {
        Cases.says("by PACE, the least first, of several the least number first");
        LanternBridge x = Cases.walkersIn("slow 1 p=0;slow 2 p=1;slow 4 p=2", 3, 3, 3);
        due("rule(0, 0): 0 and 2, 0, 0 and 1", x.rule(0, 0), 7 + 4 + 5);
        x.go(6);
        due("rule(0, 0): 1, 0 and 1", x.rule(0, 0), 5 + 5);
    }

    static void p15_fourWithTheQuickestTwo() {
        Cases.says("1: if 4 or more are on the near bank, and the quickest two of all PEOPLE both are there, these two");
        LanternBridge x = Cases.walkers(10, 1, 2, 5);
        due("rule(1, 0): 1 2, 1, 10 5, 2, 1 2", x.rule(1, 0), 17);
        due("rule(0, 0): 1 10, 1, 1 5, 1, 1 2", x.rule(0, 0), 19);
        LanternBridge y = Cases.walkers(12, 11, 10, 2, 1);
        due("rule(1, 0): 1 2, 1, 12 11, 2, 1 10, 1, 1 2", y.rule(1, 0), 2 + 1 + 12 + 2 + 10 + 1 + 2);
    }

    static void p15_threeWithTheQuickestTwo() {
        Cases.says("if 3 or more are there, and of these two just one, the slowest two there; else as by 0");
        LanternBridge x = Cases.walkersIn("bar n=2&p=1&q=2", 1, 2, 5);
        due("rule(1, 0): 1 and 2 never go", x.rule(1, 0), 8);
        due("rule(0, 0)", x.rule(0, 0), 8);
    }

    static void p15_threeWithOneOfTheQuickestTwo() {
        Cases.says("if 3 or more are there, and of these two just one, the slowest two there");
        LanternBridge x = Cases.walkers(1, 2, 5, 10);
        x.go(3);
        x.go(1);
        due("rule(1, 0): 5 10, 2, 1 2", x.rule(1, 0), 14);
        due("rule(0, 0): 1 10, 1, 1 5", x.rule(0, 0), 16);
    }

    static void p15_fourWithOneOfTheQuickestTwo() {
        Cases.says("if 3 or more are there, and of these two just one, the slowest two there");
        LanternBridge x = Cases.walkers(1, 2, 5, 6, 10);
        x.go(6);
        x.go(4);
        due("rule(1, 0): 6 10, 2, 1 5, 1, 1 2", x.rule(1, 0), 20);
        due("rule(0, 0): 1 10, 1, 1 6, 1, 1 5", x.rule(0, 0), 23);
    }

    static void p15_threeWithNoneOfTheQuickestTwo() {
        Cases.says("else as by 0");
        LanternBridge x = Cases.walkersIn("bears 3", 1, 2, 5, 6, 10);
        x.go(7);
        x.go(4);
        due("rule(1, 0): 5 10, 1, 1 6", x.rule(1, 0), 17);
    }

    static void p15_theLeastNumbers() {
        Cases.says("2: the two with the least numbers on the near bank (or one).");
        LanternBridge x = Cases.walkers(7, 8, 9, 1);
        due("rule(2, 0): 7 8, 7, 7 9, 7, 7 1", x.rule(2, 0), 38);
        LanternBridge y = Cases.walkers(9, 1, 2, 30);
        due("rule(2, 0): 9 1, 1, 1 2, 1, 1 30", y.rule(2, 0), 9 + 1 + 2 + 1 + 30);
    }

    static void p15_theBestOfThree() {
        Cases.says("by that one of 0, 1, 2 by which it is the fewest MINUTES in all (of several the least)");
        LanternBridge x = Cases.walkers(1, 2, 5, 10);
        due("rule(3, 0): as by 1", x.rule(3, 0), 17);
        LanternBridge y = Cases.walkers(1, 9, 9, 9);
        due("rule(3, 0): as by 0 and 2", y.rule(3, 0), 29);
        due("rule(1, 0)", y.rule(1, 0), 9 + 1 + 9 + 9 + 9);
        LanternBridge w = Cases.walkers(9, 9, 9, 1);
        due("rule(3, 0): as by 0", w.rule(3, 0), 29);
        due("rule(1, 0)", w.rule(1, 0), 9 + 1 + 9 + 9 + 9);
        due("rule(2, 0)", w.rule(2, 0), 45);
        LanternBridge z = Cases.walkersIn("slow 50 p=2&q=3;slow 50 p=2&q=1", 7, 8, 9, 1);
        due("rule(0, 0): 1 9, 1, 1 8, 1, 1 7", z.rule(0, 0), 59 + 1 + 8 + 1 + 7);
        due("rule(1, 0): 1 7, 1, 8 9, 7, 1 7", z.rule(1, 0), 7 + 1 + 59 + 7 + 7);
        due("rule(3, 0): as by 2: 7 8, 7, 7 9, 7, 7 1", z.rule(3, 0), 38);
    }

    static void p15_theBestIfOneOrTwoAreNone() {
        Cases.says("by that one of 0, 1, 2 by which it is the fewest MINUTES in all");
        LanternBridge x = Cases.walkersIn("bar p=0&q=3", 1, 2, 5, 10);
        due("rule(0, 0)", x.rule(0, 0), NO_WAY);
        due("rule(2, 0)", x.rule(2, 0), NO_WAY);
        due("rule(3, 0): as by 1", x.rule(3, 0), 17);
        due("rule(3, 1)", x.rule(3, 1), 5);
        due("rule(3, 2)", x.rule(3, 2), 0);
        LanternBridge y = Cases.walkersIn("bar p=2&q=3;bar p=2&q=1", 7, 8, 9, 1);
        due("rule(0, 0)", y.rule(0, 0), NO_WAY);
        due("rule(1, 0)", y.rule(1, 0), NO_WAY);
        due("rule(3, 0): as by 2: 7 8, 7, 7 9, 7, 7 1", y.rule(3, 0), 38);
        due("rule(3, 1)", y.rule(3, 1), 5);
    }

    static void p15_aGoingThatCanNotBe() {
        Cases.says("(-5: a GOING CAN not be, or there would be more than 40.)");
        String[] nights = {"bears 0", "bears 1", "heavy 9", "bar n=2", "bar b=0"};
        for (String text : nights) {
            LanternBridge x = Cases.walkersIn(text, 1, 2, 3);
            for (int rule = 0; rule < 4; rule++) {
                for (int what = 0; what < 3; what++) {
                    due("rule(" + rule + ", " + what + ") in \"" + text + "\"", x.rule(rule, what), NO_WAY);
                }
            }
        }
    }

    static void p15_aGoingBackThatCanNotBe() {
        Cases.says("(-5: a GOING CAN not be, or there would be more than 40.)");
        LanternBridge x = Cases.walkersIn("bar p=0&b=1", 1, 2, 3);
        for (int rule = 0; rule < 4; rule++) due("rule(" + rule + ", 0)", x.rule(rule, 0), NO_WAY);
        due("least(7): another one goes back", x.least(7), 7);
        for (int rule = 0; rule < 4; rule++) due("rule(" + rule + ", 2): LOSES", x.rule(rule, 2), NO_WAY);
    }

    static void p15_loses() {
        Cases.says("LOSES by a rule: its MINUTES less LEAST for all (-5, if there is none of the one or the other).");
        LanternBridge x = Cases.walkers(1, 2, 5, 10);
        int[] loses = {2, 0, 2, 0};
        for (int rule = 0; rule < 4; rule++) due("rule(" + rule + ", 2)", x.rule(rule, 2), loses[rule]);
        LanternBridge y = Cases.walkersIn("bears 0", 1);
        for (int rule = 0; rule < 4; rule++) due("rule(" + rule + ", 2), bears 0", y.rule(rule, 2), NO_WAY);
    }

    static void p15_noEndOfOil() {
        Cases.says("knows no end of oil");
        due("rule(1, 0)", Cases.walkersIn("oil 1", 1, 2, 5, 10).rule(1, 0), 17);
    }

    static void p15_itChangesNothing() {
        Cases.says("and changes nothing");
        Cases.refused("rule(4, 0)", Cases::busy, x -> x.rule(4, 0), NONE);
        Cases.refused("rule(0, 3)", Cases::busy, x -> x.rule(0, 3), NONE);
        for (int i = 0; i < 4; i++) {
            int rule = i;
            Cases.changesNothing("rule(" + i + ", 2)", Cases::busy, x -> x.rule(rule, 2));
        }
    }

    // ---- promise 16: seen

    static void p16_anEmptySet() {
        Cases.says("BAD: set, or it is empty; minutes; FULL.");
        LanternBridge x = Cases.walkers(1, 2, 3);
        due("seen(0, 5)", x.seen(0, 5), BAD);
        due("count(2)", x.count(2), 0);
    }

    static void p16_aSetOfSomeWhoAreNotThere() {
        Cases.says("(a set: bits of PEOPLE that are not there)");
        LanternBridge x = Cases.walkers(1, 2, 3);
        for (int set : NO_SETS) due("seen(" + set + ", 5)", x.seen(set, 5), BAD);
        due("seen(7, 5)", x.seen(7, 5), 1);
    }

    static void p16_minutesTooSmall() {
        Cases.says("how many minutes it took (1 .. 99)");
        LanternBridge x = Cases.walkers(1, 2, 3);
        for (int minutes : new int[] {0, -1, MIN}) due("seen(7, " + minutes + ")", x.seen(7, minutes), BAD);
        due("seen(7, 1)", x.seen(7, 1), 1);
    }

    static void p16_minutesTooLarge() {
        Cases.says("how many minutes it took (1 .. 99)");
        LanternBridge x = Cases.walkers(1, 2, 3);
        for (int minutes : new int[] {100, 101, MAX}) due("seen(7, " + minutes + ")", x.seen(7, minutes), BAD);
        due("seen(7, 99)", x.seen(7, 99), 1);
    }

    static void p16_twelveRows() {
        Cases.says("rows of a set that went over, and how many minutes it took (1 .. 99), 12 at most");
        LanternBridge x = Cases.walkers(1, 2, 3);
        for (int i = 1; i <= 12; i++) due("seen(7, 9)", x.seen(7, 9), i);
        due("count(2)", x.count(2), 12);
    }

    static void p16_aThirteenthRow() {
        Cases.says("BAD: set, or it is empty; minutes; FULL.");
        LanternBridge x = Cases.walkers(1, 2, 3);
        for (int i = 0; i < 12; i++) x.seen(7, 9);
        due("seen(7, 9)", x.seen(7, 9), FULL);
        due("seen(1, 8)", x.seen(1, 8), FULL);
        due("count(2)", x.count(2), 12);
        due("span(0, 1): the 13th is none", x.span(0, 1), 9);
    }

    static void p16_theTwelfthRowCounts() {
        Cases.says("12 at most");
        LanternBridge x = Cases.walkers(1, 2, 3);
        for (int i = 0; i < 11; i++) x.seen(7, 9);
        due("seen(1, 4)", x.seen(1, 4), 12);
        due("span(0, 1)", x.span(0, 1), 4);
    }

    static void p16_badAheadOfFull() {
        Cases.says("BAD: set, or it is empty; minutes; FULL.");
        LanternBridge x = Cases.busyWithTwelveRows();
        due("seen(0, 5)", x.seen(0, 5), BAD);
        due("seen(8, 5)", x.seen(8, 5), BAD);
        due("seen(7, 0)", x.seen(7, 0), BAD);
        due("seen(7, 100)", x.seen(7, 100), BAD);
        due("seen(7, 5)", x.seen(7, 5), FULL);
    }

    static void p16_noneThen() {
        Cases.says("A row of SEEN: how many there are (set -1: none then, 0).");
        LanternBridge x = Cases.busyWithTwelveRows();
        due("seen(-1, 5)", x.seen(-1, 5), 0);
        due("count(2)", x.count(2), 0);
        due("span(0, 0)", x.span(0, 0), 1);
        due("span(0, 1)", x.span(0, 1), 99);
        due("seen(7, 5)", x.seen(7, 5), 1);
        due("count(3): the BOOK stays", x.count(3), 12);
    }

    static void p16_noneThenWithoutRowsOrPeople() {
        Cases.says("(set -1: none then, 0)");
        due("seen(-1, 5)", Cases.walkers(1).seen(-1, 5), 0);
        due("seen(-1, 5) of nobody", new LanternBridge().seen(-1, 5), 0);
    }

    static void p16_noneThenWhateverTheMinutes() {
        Cases.says("(set -1: none then, 0)");
        for (int minutes : new int[] {0, 100, -1, MIN, MAX}) {
            LanternBridge x = Cases.walkers(1);
            x.seen(1, 5);
            due("seen(-1, " + minutes + ")", x.seen(-1, minutes), 0);
            due("count(2)", x.count(2), 0);
        }
    }

    static void p16_aRefusedRowChangesNothing() {
        Cases.says("They change nothing.");
        Cases.refused("seen(0, 5)", Cases::busy, x -> x.seen(0, 5), BAD);
        Cases.refused("seen(8, 5)", Cases::busy, x -> x.seen(8, 5), BAD);
        Cases.refused("seen(-2, 5)", Cases::busy, x -> x.seen(-2, 5), BAD);
        Cases.refused("seen(1, 0)", Cases::busy, x -> x.seen(1, 0), BAD);
        Cases.refused("seen(1, 100)", Cases::busy, x -> x.seen(1, 100), BAD);
        Cases.refused("seen(1, 1)", Cases::busyWithTwelveRows, x -> x.seen(1, 1), FULL);
    }

    // ---- promise 17: span

    private static void spanDue(LanternBridge x, int person, int least, int greatest) {
        due("span(" + person + ", 0)", x.span(person, 0), least);
        due("span(" + person + ", 1)", x.span(person, 1), greatest);
    }

    static void p17_oneWhoIsNotThere() {
        Cases.says("SPAN: what 0 the least, 1 the greatest. NONE.");
        LanternBridge x = Cases.walkers(1, 2, 3);
        for (int person : NOBODY) spanDue(x, person, NONE, NONE);
    }

    static void p17_whatThatIsNone() {
        Cases.says("SPAN: what 0 the least, 1 the greatest. NONE.");
        LanternBridge x = Cases.walkers(1, 2, 3);
        for (int what : new int[] {-1, 2, MIN, MAX}) due("span(0, " + what + ")", x.span(0, what), NONE);
        due("span(3, 2)", x.span(3, 2), NONE);
    }

    static void p17_noneAheadOfNoSuchNumber() {
        Cases.says("NONE.");
        LanternBridge x = Cases.walkers(1, 2, 3);
        x.seen(1, 4);
        x.seen(1, 5);
        due("span(3, 0)", x.span(3, 0), NONE);
        due("span(0, 2)", x.span(0, 2), NONE);
        spanDue(x, 0, 0, 0);
    }

    static void p17_withoutRows() {
        Cases.says("(0, if there is no such number; 1, 99 without rows)");
        LanternBridge x = Cases.walkers(1, 30);
        spanDue(x, 0, 1, 99);
        spanDue(x, 1, 1, 99);
    }

    static void p17_inNoRow() {
        Cases.says("the least, the greatest that one's own may be by all rows");
        LanternBridge x = Cases.walkers(1, 2, 3);
        x.seen(3, 7);
        spanDue(x, 2, 1, 99);
    }

    static void p17_aRowOfOne() {
        Cases.says("the least, the greatest that one's own may be by all rows");
        for (int minutes : new int[] {1, 2, 98, 99}) {
            LanternBridge x = Cases.walkers(1, 2);
            x.seen(1, minutes);
            spanDue(x, 0, minutes, minutes);
            spanDue(x, 1, 1, 99);
        }
    }

    static void p17_aRowOfTwo() {
        Cases.says("and a GOING the most of those in it");
        for (int minutes : new int[] {1, 2, 98, 99}) {
            LanternBridge x = Cases.walkers(1, 2);
            x.seen(3, minutes);
            spanDue(x, 0, 1, minutes);
            spanDue(x, 1, 1, minutes);
        }
    }

    static void p17_onlyOneCanHaveBeenSoSlow() {
        Cases.says("and a GOING the most of those in it");
        LanternBridge x = Cases.walkers(1, 2, 3);
        x.seen(3, 50);
        x.seen(6, 10);
        spanDue(x, 0, 50, 50);
        spanDue(x, 1, 1, 10);
        spanDue(x, 2, 1, 10);
        x.seen(4, 9);
        spanDue(x, 1, 10, 10);
        spanDue(x, 2, 9, 9);
    }

    static void p17_noSuchNumber() {
        Cases.says("(0, if there is no such number");
        LanternBridge x = Cases.walkers(1, 2, 3);
        x.seen(1, 4);
        x.seen(1, 5);
        spanDue(x, 0, 0, 0);
        spanDue(x, 1, 0, 0);
        LanternBridge y = Cases.walkers(1, 2, 3);
        y.seen(1, 4);
        y.seen(2, 4);
        y.seen(3, 5);
        for (int i = 0; i < 3; i++) spanDue(y, i, 0, 0);
        LanternBridge z = Cases.walkers(1, 2, 3);
        z.seen(1, 4);
        z.seen(3, 3);
        for (int i = 0; i < 3; i++) spanDue(z, i, 0, 0);
    }

    static void p17_theSameRowTwice() {
        Cases.says("by all rows");
        LanternBridge x = Cases.walkers(1, 2);
        x.seen(3, 7);
        x.seen(3, 7);
        spanDue(x, 0, 1, 7);
    }

    static void p17_sixInARow() {
        Cases.says("by all rows");
        LanternBridge x = Cases.walkers(1, 2, 3, 4, 5, 6);
        x.seen(63, 99);
        x.seen(31, 98);
        spanDue(x, 5, 99, 99);
        for (int i = 0; i < 5; i++) spanDue(x, i, 1, 98);
    }

    static void p17_itChangesNothing() {
        Cases.says("They change nothing.");
        Cases.refused("span(3, 0)", Cases::busy, x -> x.span(3, 0), NONE);
        Cases.refused("span(0, 2)", Cases::busy, x -> x.span(0, 2), NONE);
        Cases.changesNothing("span(1, 0)", Cases::busy, x -> x.span(1, 0));
    }

    // ---- promise 18: chance

    private static void chanceDue(LanternBridge x, int person, int set, int p, long above, long below) {
        due("chance(" + person + ", " + set + ", " + p + ", 0)", x.chance(person, set, p, 0), above);
        due("chance(" + person + ", " + set + ", " + p + ", 1)", x.chance(person, set, p, 1), below);
    }

    static void p18_oneWhoIsNotThere() {
        Cases.says("NO: person, set (that one must be in it), p, part.");
        LanternBridge x = Cases.walkers(1, 2, 3);
        for (int person : NOBODY) chanceDue(x, person, 7, 1, NO, NO);
    }

    static void p18_aSetOfSomeWhoAreNotThere() {
        Cases.says("NO: person, set (that one must be in it), p, part.");
        LanternBridge x = Cases.walkers(1, 2, 3);
        for (int set : NO_SETS) chanceDue(x, 0, set, 1, NO, NO);
        chanceDue(x, 0, -1, 1, NO, NO);
    }

    static void p18_anEmptySet() {
        Cases.says("(that one must be in it)");
        chanceDue(Cases.walkers(1, 2, 3), 0, 0, 1, NO, NO);
    }

    static void p18_aSetWithoutThatOne() {
        Cases.says("(that one must be in it)");
        LanternBridge x = Cases.walkers(1, 2, 3);
        chanceDue(x, 0, 6, 1, NO, NO);
        chanceDue(x, 1, 5, 1, NO, NO);
        chanceDue(x, 2, 3, 1, NO, NO);
    }

    static void p18_pTooSmallOrTooLarge() {
        Cases.says("if with odds of p of ten (0 .. 10)");
        LanternBridge x = Cases.walkers(1, 2, 8);
        for (int p : new int[] {-1, 11, MIN, MAX}) chanceDue(x, 2, 4, p, NO, NO);
    }

    static void p18_aPartThatIsNone() {
        Cases.says("part 0 above, 1 below the line. NO: person, set (that one must be in it), p, part.");
        LanternBridge x = Cases.walkers(1, 2, 8);
        for (int part : new int[] {-1, 2, MIN, MAX}) due("chance(2, 4, 1, " + part + ")", x.chance(2, 4, 1, part), NO);
    }

    static void p18_theLeastAndTheGreatestP() {
        Cases.says("if with odds of p of ten (0 .. 10)");
        LanternBridge x = Cases.walkers(1, 2, 8);
        chanceDue(x, 2, 4, 0, 8, 1);
        chanceDue(x, 2, 4, 10, 7, 1);
    }

    static void p18_lowestTerms() {
        Cases.says("a fraction in lowest terms");
        LanternBridge x = Cases.walkers(8);
        long[] above = {8, 79, 39, 77, 38, 15, 37, 73, 36, 71, 7}, below = {1, 10, 5, 10, 5, 2, 5, 10, 5, 10, 1};
        for (int p = 0; p <= 10; p++) chanceDue(x, 0, 1, p, above[p], below[p]);
    }

    static void p18_oneMinuteAtLeast() {
        Cases.says("that one TAKES 1 less (1 at least)");
        LanternBridge x = Cases.walkers(1, 2);
        for (int p = 0; p <= 10; p++) chanceDue(x, 0, 1, p, 1, 1);
        chanceDue(x, 1, 2, 10, 1, 1);
        chanceDue(one(1, 9, 5), 0, 1, 5, 1, 1);
        LanternBridge y = one(4, 0, 1);
        y.person(0, 0, 2, 5);
        chanceDue(y, 1, 3, 10, 1, 1);
    }

    static void p18_othersAreAsSlow() {
        Cases.says("the mean of MINUTES of the set's GOING over");
        LanternBridge x = Cases.walkers(8, 7, 8, 9);
        chanceDue(x, 0, 1, 5, 15, 2);
        chanceDue(x, 0, 3, 5, 15, 2);
        chanceDue(x, 0, 5, 5, 8, 1);
        chanceDue(x, 0, 9, 5, 9, 1);
        chanceDue(x, 2, 5, 5, 8, 1);
        chanceDue(x, 3, 9, 5, 17, 2);
        chanceDue(x, 3, 15, 10, 8, 1);
    }

    static void p18_overAndNotBack() {
        Cases.says("the mean of MINUTES of the set's GOING over");
        LanternBridge x = Cases.walkersIn("slow 9 b=1;slow 2 b=0", 8);
        x.go(1);
        chanceDue(x, 0, 1, 0, 10, 1);
        LanternBridge y = Cases.walkersIn("slow 9 b=1&p=1", 8, 8);
        chanceDue(y, 0, 3, 10, 8, 1);
        chanceDue(y, 1, 3, 10, 8, 1);
    }

    static void p18_moreThanTheBridgeBears() {
        Cases.says("NO: person, set (that one must be in it), p, part.");
        LanternBridge x = Cases.walkersIn("bears 0;heavy 0;bar n>0", 1, 2, 8);
        chanceDue(x, 2, 7, 5, 15, 2);
    }

    static void p18_theMostMinutes() {
        Cases.says("a fraction in lowest terms");
        LanternBridge x = Cases.walkersIn("slow 99 p=0;".repeat(7) + "slow 99 p=0", 30);
        chanceDue(x, 0, 1, 1, 8219, 10);
    }

    static void p18_itChangesNothing() {
        Cases.says("They change nothing.");
        Cases.refused("chance(3, 7, 1, 0)", Cases::busy, x -> x.chance(3, 7, 1, 0), NO);
        Cases.refused("chance(0, 8, 1, 0)", Cases::busy, x -> x.chance(0, 8, 1, 0), NO);
        Cases.refused("chance(0, 1, 11, 0)", Cases::busy, x -> x.chance(0, 1, 11, 0), NO);
        Cases.refused("chance(0, 1, 1, 2)", Cases::busy, x -> x.chance(0, 1, 1, 2), NO);
        Cases.changesNothing("chance(0, 3, 4, 0)", Cases::busy, x -> x.chance(0, 3, 4, 0));
    }

    // ---- promise 19: book

    static void p19_anEmptySet() {
        Cases.says("BAD: set, or it is empty; FULL: 12.");
        LanternBridge x = Cases.walkers(1, 2, 3);
        due("book(0)", x.book(0), BAD);
        due("count(3)", x.count(3), 0);
    }

    static void p19_aSetOfSomeWhoAreNotThere() {
        Cases.says("(a set: bits of PEOPLE that are not there)");
        LanternBridge x = Cases.walkers(1, 2, 3);
        for (int set : NO_SETS) due("book(" + set + ")", x.book(set), BAD);
        due("book(7)", x.book(7), 1);
    }

    static void p19_twelveSets() {
        Cases.says("sets that go one behind the other from how all is (12 at most)");
        LanternBridge x = Cases.walkers(1, 2, 3);
        for (int i = 1; i <= 12; i++) due("book(7)", x.book(7), i);
        due("count(3)", x.count(3), 12);
    }

    static void p19_aThirteenthSet() {
        Cases.says("FULL: 12.");
        LanternBridge x = Cases.walkers(1, 2, 3);
        for (int i = 0; i < 12; i++) x.book(1);
        due("book(1)", x.book(1), FULL);
        due("book(2)", x.book(2), FULL);
        due("count(3)", x.count(3), 12);
        due("looked(1): the 13th is none", x.looked(1), 12);
    }

    static void p19_badAheadOfFull() {
        Cases.says("BAD: set, or it is empty; FULL: 12.");
        LanternBridge x = Cases.busyWithTwelveRows();
        due("book(0)", x.book(0), BAD);
        due("book(8)", x.book(8), BAD);
        due("book(-2)", x.book(-2), BAD);
        due("book(1)", x.book(1), FULL);
    }

    static void p19_emptyThen() {
        Cases.says("A set comes to the BOOK: how many there are (-1: it is empty then, 0).");
        LanternBridge x = Cases.busyWithTwelveRows();
        due("book(-1)", x.book(-1), 0);
        due("count(3)", x.count(3), 0);
        due("looked(0)", x.looked(0), NO_WAY);
        due("looked(1)", x.looked(1), 0);
        due("book(1)", x.book(1), 1);
        due("count(2): the rows of SEEN stay", x.count(2), 12);
    }

    static void p19_emptyThenWithoutSetsOrPeople() {
        Cases.says("(-1: it is empty then, 0)");
        due("book(-1)", Cases.walkers(1).book(-1), 0);
        due("book(-1) of nobody", new LanternBridge().book(-1), 0);
    }

    static void p19_aSetThatIsNoGoing() {
        Cases.says("A set comes to the BOOK");
        LanternBridge x = Cases.walkersIn("bears 0;heavy 0;bar n>0", 1, 2, 3);
        due("book(7)", x.book(7), 1);
        due("book(7)", x.book(7), 2);
    }

    static void p19_aRefusedSetChangesNothing() {
        Cases.says("They change nothing.");
        Cases.refused("book(0)", Cases::busy, x -> x.book(0), BAD);
        Cases.refused("book(8)", Cases::busy, x -> x.book(8), BAD);
        Cases.refused("book(-2)", Cases::busy, x -> x.book(-2), BAD);
        Cases.refused("book(1)", Cases::busyWithTwelveRows, x -> x.book(1), FULL);
    }

    // ---- promise 20: looked

    private static LanternBridge booked(LanternBridge x, int... sets) {
        for (int set : sets) x.book(set);
        return x;
    }

    private static void lookedDue(LanternBridge x, int first, int minutes) {
        due("looked(0)", x.looked(0), first);
        due("looked(1)", x.looked(1), minutes);
    }

    static void p20_whatThatIsNone() {
        Cases.says("LOOKED at: what 0 the first one (-5), 1 MINUTES. NONE.");
        LanternBridge x = booked(Cases.walkers(1, 2), 1);
        for (int what : new int[] {-1, 2, MIN, MAX}) due("looked(" + what + ")", x.looked(what), NONE);
        due("looked(2) of an empty BOOK", Cases.walkers(1, 2).looked(2), NONE);
    }

    static void p20_anEmptyBook() {
        Cases.says("(-5: none)");
        lookedDue(Cases.walkers(1, 2), NO_WAY, 0);
        lookedDue(new LanternBridge(), NO_WAY, 0);
    }

    static void p20_theFirstIsNone() {
        Cases.says("the first one that is no GOING, or CAN not be (-5: none)");
        lookedDue(booked(Cases.walkersIn("bears 0", 1, 2), 1, 1), 0, 0);
    }

    static void p20_theLastIsNone() {
        Cases.says("MINUTES of those ahead of it (of all, if there is none), together");
        lookedDue(booked(Cases.walkers(1, 2, 5), 3, 1, 5, 2, 4), 4, 2 + 1 + 5 + 2);
        lookedDue(booked(Cases.walkers(1, 2, 5), 3, 1, 5, 2, 2, 4), NO_WAY, 2 + 1 + 5 + 2 + 2 + 5);
    }

    static void p20_theTwelfthIsNone() {
        Cases.says("(12 at most)");
        lookedDue(booked(Cases.walkers(3, 4), 1, 1, 1, 1, 1, 1, 1, 1, 1, 1, 1, 2), 11, 33);
        lookedDue(booked(Cases.walkers(3, 4), 1, 1, 1, 1, 1, 1, 1, 1, 1, 1, 1, 1), NO_WAY, 36);
    }

    static void p20_theFirstOfSeveralThatAreNone() {
        Cases.says("the first one that is no GOING, or CAN not be");
        lookedDue(booked(Cases.walkers(1, 2, 5), 1, 2, 4, 1), 1, 1);
    }

    static void p20_notOnTheBankOfTheLantern() {
        Cases.says("that is no GOING");
        lookedDue(booked(Cases.walkers(1, 2, 5), 3, 4), 1, 2);
        lookedDue(booked(Cases.walkers(1, 2, 5), 3, 5), 1, 2);
        lookedDue(booked(Cases.walkers(1, 2, 5), 3, 1, 3), 2, 3);
    }

    static void p20_moreThanTheBridgeBears() {
        Cases.says("that is no GOING");
        lookedDue(booked(Cases.walkers(1, 2, 5), 3, 1, 5, 1, 1, 7), 5, 2 + 1 + 5 + 1 + 1);
        lookedDue(booked(Cases.walkers(1, 2, 5), 7), 0, 0);
    }

    static void p20_canNotBe() {
        Cases.says("or CAN not be");
        lookedDue(booked(Cases.walkersIn("bar p=0&b=1", 1, 2, 5), 3, 1), 1, 2);
        lookedDue(booked(Cases.walkersIn("heavy 9", 1, 2, 5), 1, 1, 3), 2, 2);
        lookedDue(booked(Cases.walkersIn("heavy 10", 1, 2, 5), 1, 1, 3), NO_WAY, 4);
    }

    static void p20_fromHowAllIs() {
        Cases.says("from how all is");
        LanternBridge x = booked(Cases.walkers(1, 2, 5), 1, 5);
        lookedDue(x, 1, 1);
        x.go(3);
        lookedDue(x, NO_WAY, 6);
    }

    static void p20_noEndOfOil() {
        Cases.says("knows no end of oil");
        lookedDue(booked(Cases.walkersIn("oil 1", 5), 1, 1, 1), NO_WAY, 15);
    }

    static void p20_whoComesLaterIsOnTheNearBank() {
        Cases.says("from how all is");
        LanternBridge x = booked(Cases.walkers(1, 2), 3, 1);
        x.person(0, 0, 9, 5);
        x.book(5);
        lookedDue(x, NO_WAY, 2 + 1 + 9);
    }

    static void p20_itChangesNothing() {
        Cases.says("and changes nothing");
        Cases.refused("looked(2)", Cases::busy, x -> x.looked(2), NONE);
        Cases.refused("looked(-1)", Cases::busy, x -> x.looked(-1), NONE);
        Cases.changesNothing("looked(0)", Cases::busy, x -> x.looked(0));
        Cases.changesNothing("looked(1)", Cases::busy, x -> x.looked(1));
    }
}
