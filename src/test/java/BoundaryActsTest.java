/** Promises 21 to 26, acts, the image: a test for each sentence that names a boundary case. */
public final class BoundaryActsTest {
    private static final int NONE = Cases.NONE, STATE = Cases.STATE, FULL = Cases.FULL, OTHER_KIND = Cases.OTHER_KIND;
    private static final int MIN = Cases.MIN, MAX = Cases.MAX;
    private static final int GOES = 0, WAITS = 1, TELLS = 2;

    public static void main(String[] args) {
        Cases.runAll(BoundaryActsTest.class, 21, 26);
    }

    private static void due(String call, long got, long want) {
        Cases.due(call, got, want);
    }

    /** Two: number 1 is of the KIND, with v 4. */
    private static LanternBridge second(int kind) {
        LanternBridge x = new LanternBridge();
        x.person(0, 0, 1, 0);
        x.person(kind, 4, 1, 0);
        return x;
    }

    private static void actDue(int kind, int act, int x, int want) {
        due("KIND " + kind + ", act(1, " + act + ", " + x + ")", second(kind).act(1, act, x), want);
    }

    // ---- promise 21: act

    static void p21_oneWhoIsNotThere() {
        Cases.says("0, and no TRACE then: no such one, act.");
        LanternBridge x = Cases.walkers(1, 2);
        for (int person : new int[] {-1, 2, 6, 32, 33, -32, MIN, MAX}) {
            due("act(1, 1, 7)", x.act(1, WAITS, 7), 8);
            due("act(" + person + ", 0, 7)", x.act(person, GOES, 7), 0);
            due("trace(0)", x.trace(0), NONE);
            due("count(5)", x.count(5), 0);
        }
    }

    static void p21_anActThatIsNone() {
        Cases.says("0, and no TRACE then: no such one, act.");
        LanternBridge x = Cases.walkers(1, 2);
        for (int act : new int[] {-1, 3, MIN, MAX}) {
            due("act(1, 1, 7)", x.act(1, WAITS, 7), 8);
            due("act(1, " + act + ", 7)", x.act(1, act, 7), 0);
            due("trace(0)", x.trace(0), NONE);
            due("count(5)", x.count(5), 0);
        }
    }

    static void p21_neitherIs() {
        Cases.says("0, and no TRACE then: no such one, act.");
        LanternBridge x = Cases.walkers(1, 2);
        x.act(1, TELLS, 7);
        due("act(2, 3, 7)", x.act(2, 3, 7), 0);
        due("count(5)", x.count(5), 0);
        due("act(0, 0, 7) of nobody", new LanternBridge().act(0, GOES, 7), 0);
    }

    static void p21_anActThatAnswersZeroHasATrace() {
        Cases.says("An ACT (0 goes, 1 waits, 2 tells) of one of the PEOPLE with x.");
        LanternBridge x = Cases.walkers(1, 2);
        due("act(1, 0, -1)", x.act(1, GOES, -1), 0);
        due("count(5)", x.count(5), 1);
        due("trace(0)", x.trace(0), 1);
    }

    static void p21_goesWraps() {
        Cases.says("WALKER: 1 goes: x + i.");
        actDue(0, GOES, MAX, MIN);
        actDue(0, GOES, MAX - 1, MAX);
        actDue(0, GOES, MIN, MIN + 1);
    }

    static void p21_waitsWraps() {
        Cases.says("2 waits: goes(x) - v.");
        actDue(0, WAITS, MIN, MAX - 2);
        actDue(0, WAITS, MIN + 3, MIN);
        actDue(0, WAITS, MAX, MAX - 3);
    }

    static void p21_tellsWraps() {
        Cases.says("3 tells: waits(x) * 2.");
        actDue(0, TELLS, (1 << 30) + 3, MIN);
        actDue(0, TELLS, (1 << 30) + 2, MAX - 1);
        actDue(0, TELLS, MIN, -6);
        actDue(0, TELLS, MAX, -8);
    }

    static void p21_quickGoesWraps() {
        Cases.says("QUICK: 11 goes: super.goes(x * 3).");
        actDue(1, GOES, MAX, MAX - 1);
        actDue(1, GOES, MIN, MIN + 1);
        actDue(1, GOES, 715827883, -2147483647 + 1);
        actDue(4, GOES, MAX, MAX - 1);
    }

    static void p21_lameWaitsWraps() {
        Cases.says("LAME: 21 waits: -super.waits(x).");
        actDue(2, WAITS, MIN + 3, MIN);
        actDue(2, WAITS, MIN + 4, MAX);
        actDue(2, WAITS, 3, 0);
    }

    static void p21_tiedTellsWraps() {
        Cases.says("TIED: 31 tells: super.tells(x) ^ 7.");
        actDue(3, TELLS, (1 << 30) + 3, MIN + 7);
        actDue(3, TELLS, 3, 7);
        actDue(3, TELLS, 2, -7);
    }

    static void p21_leadingTellsWraps() {
        Cases.says("LEADING: 41 tells: super.tells(x - 1) + goes(2).");
        actDue(4, TELLS, MIN, -5);
        actDue(4, TELLS, 357913943, -2147483643);
        actDue(4, TELLS, 0, -5);
    }

    static void p21_carriedGoesWraps() {
        Cases.says("CARRIED: 51 goes: super.goes(x) ^ i.");
        actDue(5, GOES, MAX, MIN + 1);
        actDue(5, GOES, -2, -2);
        actDue(5, WAITS, MAX, 2 - MAX);
    }

    static void p21_tiringWaitsWraps() {
        Cases.says("TIRING: 61 waits: super.waits(x) + v.");
        actDue(6, WAITS, MAX, MIN);
        actDue(6, WAITS, MIN, MIN + 1);
        actDue(6, TELLS, MAX, 7);
    }

    static void p21_theFirstAndTheSixth() {
        Cases.says("i their number");
        LanternBridge x = Cases.walkers(1, 1, 1, 1, 1, 1);
        due("act(0, 0, 7)", x.act(0, GOES, 7), 7);
        due("act(5, 0, 7)", x.act(5, GOES, 7), 12);
        due("act(6, 0, 7)", x.act(6, GOES, 7), 0);
    }

    static void p21_allButTheTraceStays() {
        Cases.says("THE IMAGE: all that there is (but THE IMAGE and THE TRACE).");
        for (int act = 0; act < 3; act++) {
            LanternBridge x = Cases.busy();
            x.act(2, act, 11);
            x.act(1, TELLS, 9);
            Cases.sameAs("act(2, " + act + ", 11), act(1, 2, 9)", x, Cases.busy());
        }
    }

    static void p21_aRefusedActTakesTheTraceAlone() {
        Cases.says("0, and no TRACE then: no such one, act.");
        LanternBridge x = Cases.busy();
        x.act(3, GOES, 11);
        x.act(0, 3, 11);
        x.act(1, TELLS, 9);
        Cases.sameAs("act(3, 0, 11), act(0, 3, 11), act(1, 2, 9)", x, Cases.busy());
    }

    // ---- promise 22: trace

    static void p22_noActYet() {
        Cases.says("THE TRACE's i-th body. NONE.");
        LanternBridge x = Cases.walkers(1);
        for (int i : new int[] {-1, 0, 1, 19, 20, MIN, MAX}) due("trace(" + i + ")", x.trace(i), NONE);
    }

    static void p22_iTooSmallOrTooLarge() {
        Cases.says("THE TRACE's i-th body. NONE.");
        LanternBridge x = second(0);
        x.act(1, TELLS, 5);
        for (int i : new int[] {-1, 3, 4, 19, 20, 21, MIN, MAX}) due("trace(" + i + ")", x.trace(i), NONE);
        due("trace(0)", x.trace(0), 3);
        due("trace(2)", x.trace(2), 1);
    }

    static void p22_theLongestTrace() {
        Cases.says("the numbers of the bodies that ran in the latest act(), as they began; the first 20 are kept");
        LanternBridge x = second(4);
        x.act(1, TELLS, 5);
        int[] bodies = {41, 3, 2, 11, 1, 11, 1};
        due("count(5)", x.count(5), 7);
        for (int i = 0; i < 7; i++) due("trace(" + i + ")", x.trace(i), bodies[i]);
        due("trace(7)", x.trace(7), NONE);
    }

    static void p22_theTraceOfEachKind() {
        Cases.says("the numbers of the bodies that ran in the latest act(), as they began");
        int[][][] bodies = {
            {{1}, {2, 1}, {3, 2, 1}},
            {{11, 1}, {2, 11, 1}, {3, 2, 11, 1}},
            {{1}, {21, 2, 1}, {3, 21, 2, 1}},
            {{1}, {2, 1}, {31, 3, 2, 1}},
            {{11, 1}, {2, 11, 1}, {41, 3, 2, 11, 1, 11, 1}},
            {{51, 1}, {21, 2, 51, 1}, {3, 21, 2, 51, 1}},
            {{1}, {61, 2, 1}, {31, 3, 61, 2, 1}}};
        for (int kind = 0; kind <= 6; kind++) {
            for (int act = 0; act < 3; act++) {
                LanternBridge x = second(kind);
                x.act(1, act, 5);
                int[] want = bodies[kind][act];
                String call = "KIND " + kind + ", act " + act + ", ";
                due(call + "count(5)", x.count(5), want.length);
                for (int i = 0; i < want.length; i++) due(call + "trace(" + i + ")", x.trace(i), want[i]);
                due(call + "trace(" + want.length + ")", x.trace(want.length), NONE);
            }
        }
    }

    static void p22_aShorterOneBehindALonger() {
        Cases.says("the bodies that ran in the latest act()");
        LanternBridge x = second(4);
        x.act(1, TELLS, 5);
        x.act(0, GOES, 5);
        due("count(5)", x.count(5), 1);
        due("trace(0)", x.trace(0), 1);
        for (int i = 1; i < 8; i++) due("trace(" + i + ")", x.trace(i), NONE);
    }

    static void p22_thirtyActs() {
        Cases.says("the bodies that ran in the latest act()");
        LanternBridge x = second(4);
        for (int i = 0; i < 30; i++) x.act(1, TELLS, i);
        due("count(5)", x.count(5), 7);
        due("trace(0)", x.trace(0), 41);
        due("trace(7)", x.trace(7), NONE);
    }

    static void p22_noTraceThen() {
        Cases.says("0, and no TRACE then");
        LanternBridge x = second(4);
        x.act(1, TELLS, 5);
        x.act(2, TELLS, 5);
        for (int i = 0; i < 8; i++) due("trace(" + i + ")", x.trace(i), NONE);
    }

    static void p22_itChangesNothing() {
        Cases.says("They change nothing.");
        Cases.refused("trace(-1)", Cases::busy, x -> x.trace(-1), NONE);
        Cases.refused("trace(20)", Cases::busy, x -> x.trace(20), NONE);
        Cases.changesNothing("trace(0)", Cases::busy, x -> x.trace(0));
    }

    // ---- promise 23: as

    static void p23_oneWhoIsNotThere() {
        Cases.says("NONE: person, k");
        LanternBridge x = Cases.walkers(1, 2);
        for (int person : new int[] {-1, 2, 6, 32, -32, MIN, MAX}) due("as(" + person + ", 0)", x.as(person, 0), NONE);
    }

    static void p23_aKindThatIsNone() {
        Cases.says("NONE: person, k");
        LanternBridge x = Cases.walkers(1, 2);
        for (int k : new int[] {-1, 7, MIN, MAX}) due("as(0, " + k + ")", x.as(0, k), NONE);
        due("as(2, 7)", x.as(2, 7), NONE);
    }

    static void p23_eachKindTakenForEach() {
        Cases.says("One of the PEOPLE taken for a KIND k (0 .. 6), or one under that: their v.");
        int[] above = {-1, 0, 0, 0, 1, 2, 3};
        for (int kind = 0; kind <= 6; kind++) {
            LanternBridge x = second(kind);
            for (int k = 0; k <= 6; k++) {
                boolean is = k == kind || k == above[kind] || k == 0;
                due("KIND " + kind + ", as(1, " + k + ")", x.as(1, k), is ? 4 : OTHER_KIND);
            }
        }
    }

    static void p23_noneAheadOfAnotherKind() {
        Cases.says("NONE: person, k; -6: it is of another KIND.");
        LanternBridge x = second(0);
        due("as(0, 1)", x.as(0, 1), OTHER_KIND);
        due("as(2, 1)", x.as(2, 1), NONE);
        due("as(0, 7)", x.as(0, 7), NONE);
    }

    static void p23_theLeastAndTheGreatestV() {
        Cases.says("their v");
        LanternBridge x = new LanternBridge();
        x.person(6, 0, 1, 0);
        x.person(6, 9, 1, 0);
        due("as(0, 3)", x.as(0, 3), 0);
        due("as(1, 3)", x.as(1, 3), 9);
    }

    static void p23_itChangesNothing() {
        Cases.says("They change nothing.");
        Cases.refused("as(3, 0)", Cases::busy, x -> x.as(3, 0), NONE);
        Cases.refused("as(0, 7)", Cases::busy, x -> x.as(0, 7), NONE);
        Cases.refused("as(0, 1)", Cases::busy, x -> x.as(0, 1), OTHER_KIND);
        Cases.changesNothing("as(1, 1)", Cases::busy, x -> x.as(1, 1));
    }

    // ---- promise 24: image

    static void p24_ofNobody() {
        Cases.says("THE IMAGE is taken: how many PEOPLE there are.");
        LanternBridge x = new LanternBridge();
        due("image()", x.image(), 0);
        x.person(0, 0, 1, 0);
        Cases.night(x, "oil 5");
        due("undo(): there is one, of nobody", x.undo(), 0);
        due("count(0)", x.count(0), 0);
        due("count(1)", x.count(1), 0);
        due("told(2)", x.told(2), 0);
    }

    static void p24_ofSix() {
        Cases.says("THE IMAGE is taken: how many PEOPLE there are.");
        LanternBridge x = Cases.walkers(1, 2, 3, 4, 5, 6);
        due("image()", x.image(), 6);
        due("undo()", x.undo(), 6);
        for (int i = 0; i < 6; i++) due("of(" + i + ", 2)", x.of(i, 2), i + 1);
        due("person(0, 0, 1, 0)", x.person(0, 0, 1, 0), FULL);
    }

    static void p24_theNewerOneInPlaceOfTheOlder() {
        Cases.says("THE IMAGE is taken");
        LanternBridge x = Cases.walkers(1);
        due("image()", x.image(), 1);
        x.person(0, 0, 2, 0);
        due("image()", x.image(), 2);
        x.person(0, 0, 3, 0);
        due("undo()", x.undo(), 2);
        due("undo() again", x.undo(), 2);
    }

    static void p24_allButTheImageStays() {
        Cases.says("THE IMAGE is taken: how many PEOPLE there are.");
        LanternBridge x = Cases.busy(), y = Cases.busy();
        due("image()", x.image(), 3);
        for (int what = 0; what < 7; what++) due("told(" + what + ")", x.told(what), y.told(what));
        for (int what = 0; what < 6; what++) due("count(" + what + ")", x.count(what), y.count(what));
        for (int i = 0; i < 8; i++) due("trace(" + i + ")", x.trace(i), y.trace(i));
    }

    static void p24_whatComesLaterIsNotInIt() {
        Cases.says("All is as THE IMAGE");
        LanternBridge x = Cases.busy();
        x.image();
        x.seen(-1, 0);
        x.seen(7, 77);
        x.seen(7, 77);
        x.seen(7, 77);
        x.book(-1);
        for (int i = 0; i < 3; i++) x.book(4);
        x.night();
        Cases.feed(x, "heavy");
        x.undo();
        LanternBridge y = Cases.busy();
        y.image();
        Cases.sameAs("image(), other rows, undo()", x, y);
    }

    // ---- promise 25: undo

    static void p25_thereIsNone() {
        Cases.says("STATE: there is none.");
        due("undo()", new LanternBridge().undo(), STATE);
        LanternBridge x = Cases.walkers(1, 2);
        x.go(1);
        due("undo()", x.undo(), STATE);
        due("undo() again", x.undo(), STATE);
        due("count(0)", x.count(0), 2);
        due("told(4)", x.told(4), 1);
    }

    static void p25_refusedItChangesNothing() {
        Cases.says("They change nothing.");
        Cases.refused("undo()", BoundaryActsTest::withoutAnImage, x -> x.undo(), STATE);
    }

    private static LanternBridge withoutAnImage() {
        LanternBridge x = Cases.walkersIn("slow 2 p=1;oil 60", 3, 4, 5);
        x.go(3);
        x.seen(3, 5);
        x.book(1);
        x.act(1, TELLS, 9);
        return Cases.feed(x, "oil 4");
    }

    static void p25_rightBehindTheImage() {
        Cases.says("All is as THE IMAGE: how many PEOPLE.");
        LanternBridge x = Cases.busy(), y = Cases.busy();
        x.image();
        y.image();
        due("undo()", x.undo(), 3);
        Cases.sameAs("image(), undo()", x, y);
    }

    static void p25_twice() {
        Cases.says("All is as THE IMAGE: how many PEOPLE.");
        LanternBridge x = Cases.busy(), y = Cases.busy();
        due("undo()", x.undo(), 3);
        x.person(0, 0, 9, 9);
        x.go(2);
        x.book(-1);
        x.seen(-1, 0);
        x.feed('x');
        due("undo() again", x.undo(), 3);
        y.undo();
        Cases.sameAs("undo(), undo()", x, y);
    }

    static void p25_theTraceIsNotInIt() {
        Cases.says("THE IMAGE: all that there is (but THE IMAGE and THE TRACE).");
        LanternBridge x = second(4);
        x.act(1, WAITS, 5);
        x.image();
        x.act(1, TELLS, 5);
        x.undo();
        due("count(5)", x.count(5), 7);
        due("trace(0)", x.trace(0), 41);
        due("trace(6)", x.trace(6), 1);
    }

    static void p25_theImageIsNotInIt() {
        Cases.says("THE IMAGE: all that there is (but THE IMAGE and THE TRACE).");
        LanternBridge x = Cases.walkers(1);
        x.image();
        x.person(0, 0, 2, 0);
        x.image();
        due("undo()", x.undo(), 2);
        due("undo(): the older one is gone", x.undo(), 2);
    }

    static void p25_fewerPeople() {
        Cases.says("All is as THE IMAGE: how many PEOPLE.");
        LanternBridge x = Cases.walkers(1, 7);
        x.image();
        for (int i = 3; i < 7; i++) x.person(4, 0, i, 9);
        due("least(63)", x.least(63) > 0 ? 1 : 0, 1);
        due("undo()", x.undo(), 2);
        due("of(2, 0)", x.of(2, 0), NONE);
        due("going(4, 0, 0)", x.going(4, 0, 0), Cases.BAD);
        due("least(3)", x.least(3), 7);
        due("by(999, 1)", x.by(999, 1), 3);
        due("act(2, 0, 1)", x.act(2, GOES, 1), 0);
        due("person(0, 0, 5, 0)", x.person(0, 0, 5, 0), 2);
        due("of(2, 2)", x.of(2, 2), 5);
        due("going(5, 0, 1)", x.going(5, 0, 1), 5);
        due("going(6, 0, 1): nobody leads", x.going(6, 0, 1), 7);
    }

    static void p25_fewerNights() {
        Cases.says("All is as THE IMAGE");
        LanternBridge x = Cases.walkersIn("slow 7 p=0", 1);
        x.image();
        for (int i = 1; i < 5; i++) due("night()", Cases.night(x, "oil " + i), i);
        due("night()", Cases.night(x, "oil 9"), FULL);
        due("undo()", x.undo(), 1);
        due("count(1)", x.count(1), 1);
        due("going(1, 0, 1)", x.going(1, 0, 1), 8);
        due("told(2)", x.told(2), 0);
        due("count(4)", x.count(4), 0);
        due("night()", Cases.night(x, "oil 6"), 1);
    }

    static void p25_theTape() {
        Cases.says("All is as THE IMAGE");
        LanternBridge x = Cases.feed(new LanternBridge(), "oil 7");
        x.image();
        due("night()", x.night(), 0);
        Cases.feed(x, "xxxxxxxxxx");
        x.undo();
        due("count(4)", x.count(4), 5);
        due("feed('3')", x.feed('3'), 6);
        due("night()", x.night(), 0);
        due("told(2)", x.told(2), 73);
    }

    static void p25_theBanks() {
        Cases.says("All is as THE IMAGE");
        LanternBridge x = Cases.walkers(3, 4);
        x.go(3);
        x.image();
        x.go(1);
        x.go(1);
        x.go(2);
        x.undo();
        due("told(3)", x.told(3), 4);
        due("told(4)", x.told(4), 1);
        due("told(5)", x.told(5), 1);
        due("told(6)", x.told(6), 3);
    }

    static void p25_rowsAndBook() {
        Cases.says("All is as THE IMAGE");
        LanternBridge x = Cases.busyWithTwelveRows();
        x.image();
        x.seen(-1, 0);
        x.book(-1);
        x.undo();
        due("count(2)", x.count(2), 12);
        due("count(3)", x.count(3), 12);
        due("seen(1, 1)", x.seen(1, 1), FULL);
        due("book(1)", x.book(1), FULL);
        due("span(2, 1)", x.span(2, 1), 6);
    }

    // ---- promise 26: count

    static void p26_whatThatIsNone() {
        Cases.says("0 PEOPLE, 1 NIGHTS, 2 rows of SEEN, 3 of the BOOK, 4 signs of THE TAPE, 5 bodies that ran in the latest act(). NONE.");
        LanternBridge x = Cases.busy();
        for (int what : new int[] {-1, 6, MIN, MAX}) due("count(" + what + ")", x.count(what), NONE);
    }

    static void p26_allAreNothing() {
        Cases.says("0 PEOPLE, 1 NIGHTS, 2 rows of SEEN, 3 of the BOOK, 4 signs of THE TAPE, 5 bodies that ran in the latest act().");
        LanternBridge x = new LanternBridge();
        for (int what = 0; what < 6; what++) due("count(" + what + ")", x.count(what), 0);
    }

    static void p26_allAreFull() {
        Cases.says("0 PEOPLE, 1 NIGHTS, 2 rows of SEEN, 3 of the BOOK, 4 signs of THE TAPE, 5 bodies that ran in the latest act().");
        LanternBridge x = Cases.walkers(1, 2, 3, 4, 5);
        x.person(4, 0, 1, 1);
        for (int i = 0; i < 5; i++) Cases.night(x, "oil 1");
        for (int i = 0; i < 12; i++) x.seen(1, 1);
        for (int i = 0; i < 12; i++) x.book(1);
        for (int i = 0; i < 100; i++) x.feed('o');
        x.act(5, TELLS, 1);
        int[] full = {6, 5, 12, 12, 100, 7};
        for (int what = 0; what < 6; what++) due("count(" + what + ")", x.count(what), full[what]);
        due("person(0, 0, 1, 1)", x.person(0, 0, 1, 1), FULL);
        due("night()", x.night(), FULL);
        due("seen(1, 1)", x.seen(1, 1), FULL);
        due("book(1)", x.book(1), FULL);
        due("feed('o')", x.feed('o'), FULL);
        for (int what = 0; what < 6; what++) due("count(" + what + ") behind refusals", x.count(what), full[what]);
    }

    static void p26_eachOfItsOwn() {
        Cases.says("0 PEOPLE, 1 NIGHTS, 2 rows of SEEN, 3 of the BOOK, 4 signs of THE TAPE, 5 bodies that ran in the latest act().");
        LanternBridge x = Cases.busy();
        int[] want = {3, 1, 3, 3, 5, 7};
        for (int what = 0; what < 6; what++) due("count(" + what + ")", x.count(what), want[what]);
    }

    static void p26_itChangesNothing() {
        Cases.says("They change nothing.");
        Cases.refused("count(6)", Cases::busy, x -> x.count(6), NONE);
        Cases.refused("count(-1)", Cases::busy, x -> x.count(-1), NONE);
        Cases.changesNothing("count(0)", Cases::busy, x -> x.count(0));
    }
}
