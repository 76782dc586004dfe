import java.util.function.IntUnaryOperator;

/** Promises 7 to 12, goings: a test for each sentence that names a boundary case. */
public final class BoundaryGoingsTest {
    private static final int NONE = Cases.NONE, BAD = Cases.BAD, STATE = Cases.STATE, NO_WAY = Cases.NO_WAY;
    private static final int MIN = Cases.MIN, MAX = Cases.MAX;
    /** No sets, where the PEOPLE are 0, 1 and 2. */
    private static final int[] NO_SETS = {8, 9, 15, 16, 32, 64, 65, 1 << 30, MAX, MIN, MIN + 1, -1, -2, -8};
    /** All TAKE 333 over and back. */
    private static final String SLOW_NIGHT = "slow 99 n>0;slow 99 n>0;slow 99 n>0;slow 6 n>0";

    public static void main(String[] args) {
        Cases.runAll(BoundaryGoingsTest.class, 7, 12);
    }

    private static void due(String call, long got, long want) {
        Cases.due(call, got, want);
    }

    private static void badSets(String name, IntUnaryOperator asked) {
        for (int set : NO_SETS) due(name + " of set " + set, asked.applyAsInt(set), BAD);
    }

    /** One of a KIND, number 0, PACE 5, v 3, WEIGHT 4; number 1 is a WALKER of PACE 1 and this WEIGHT. */
    private static LanternBridge beside(int kind, int weight) {
        LanternBridge x = new LanternBridge();
        x.person(kind, 3, 5, 4);
        x.person(0, 0, 1, weight);
        return x;
    }

    private static LanternBridge one(int kind, int v, int pace) {
        LanternBridge x = new LanternBridge();
        x.person(kind, v, pace, 5);
        return x;
    }

    // ---- promise 7: going

    static void p07_aWayThatIsNone() {
        Cases.says("NONE: way, what");
        LanternBridge x = Cases.walkers(1, 2);
        for (int way : new int[] {-1, 2, MIN, MAX}) {
            for (int what = 0; what < 2; what++) due("going(1, " + way + ", " + what + ")", x.going(1, way, what), NONE);
        }
    }

    static void p07_whatThatIsNone() {
        Cases.says("NONE: way, what");
        LanternBridge x = Cases.walkers(1, 2);
        for (int what : new int[] {-1, 2, MIN, MAX}) {
            for (int way = 0; way < 2; way++) due("going(1, " + way + ", " + what + ")", x.going(1, way, what), NONE);
        }
    }

    static void p07_anEmptySet() {
        Cases.says("BAD: set, or it is empty.");
        LanternBridge x = Cases.walkers(1, 2);
        for (int way = 0; way < 2; way++) {
            for (int what = 0; what < 2; what++) due("going(0, " + way + ", " + what + ")", x.going(0, way, what), BAD);
        }
    }

    static void p07_aSetOfSomeWhoAreNotThere() {
        Cases.says("BAD a number is not as told (a set: bits of PEOPLE that are not there)");
        LanternBridge x = Cases.walkers(1, 2, 3);
        badSets("going(.., 0, 0)", set -> x.going(set, 0, 0));
        badSets("going(.., 1, 1)", set -> x.going(set, 1, 1));
        due("going(7, 0, 1)", x.going(7, 0, 1), 3);
    }

    static void p07_aSetOfASeventh() {
        Cases.says("(a set: bits of PEOPLE that are not there)");
        LanternBridge x = Cases.walkers(1, 2, 3, 4, 5, 6);
        due("going(63, 0, 1)", x.going(63, 0, 1), 6);
        due("going(64, 0, 1)", x.going(64, 0, 1), BAD);
        due("going(65, 0, 1)", x.going(65, 0, 1), BAD);
    }

    static void p07_noneAheadOfBad() {
        Cases.says("NONE: way, what; BAD: set, or it is empty.");
        LanternBridge x = Cases.walkers(1, 2);
        due("going(0, 2, 0)", x.going(0, 2, 0), NONE);
        due("going(4, -1, 0)", x.going(4, -1, 0), NONE);
        due("going(0, 0, 2)", x.going(0, 0, 2), NONE);
        due("going(-1, 1, -1)", x.going(-1, 1, -1), NONE);
    }

    static void p07_asManyAsTheBridgeBears() {
        Cases.says("whether it CAN be (bears, too)");
        for (int bears = 0; bears <= 6; bears++) {
            LanternBridge x = Cases.walkersIn("bears " + bears, 1, 1, 1, 1, 1, 1);
            for (int many = 1; many <= 6; many++) {
                int set = (1 << many) - 1;
                for (int way = 0; way < 2; way++) {
                    due("going(" + set + ", " + way + ", 0), bears " + bears, x.going(set, way, 0), many <= bears ? 1 : 0);
                }
            }
        }
    }

    static void p07_asManyAsTheBridgeBearsWithoutANight() {
        Cases.says("Of bears (2 without)");
        LanternBridge x = Cases.walkers(1, 1, 1);
        due("going(6, 0, 0)", x.going(6, 0, 0), 1);
        due("going(7, 0, 0)", x.going(7, 0, 0), 0);
    }

    static void p07_moreThanTheBridgeBearsHaveMinutes() {
        Cases.says("A GOING of a set over (way 0) or back (1), wherever they are: what 0 whether it CAN be (bears, too), 1 MINUTES.");
        LanternBridge x = Cases.walkersIn("bears 0", 3, 4, 9);
        due("going(7, 0, 1)", x.going(7, 0, 1), 9);
        due("going(1, 1, 1)", x.going(1, 1, 1), 3);
    }

    static void p07_justAsHeavyAsItMayBe() {
        Cases.says("if their WEIGHT, together, is heavy or less");
        LanternBridge x = new LanternBridge();
        x.person(0, 0, 1, 9);
        x.person(0, 0, 1, 8);
        Cases.night(x, "heavy 17");
        due("going(3, 0, 0) of 17, heavy 17", x.going(3, 0, 0), 1);
        Cases.night(x, "heavy 16");
        due("going(3, 0, 0) of 17, heavy 16", x.going(3, 0, 0), 0);
        due("going(3, 1, 0) of 17, heavy 16", x.going(3, 1, 0), 0);
        due("going(1, 0, 0) of 9, heavy 16", x.going(1, 0, 0), 1);
        Cases.night(x, "heavy 8");
        due("going(1, 0, 0) of 9, heavy 8", x.going(1, 0, 0), 0);
        due("going(2, 0, 0) of 8, heavy 8", x.going(2, 0, 0), 1);
    }

    static void p07_heavyIsNothing() {
        Cases.says("if their WEIGHT, together, is heavy or less");
        LanternBridge x = new LanternBridge();
        x.person(0, 0, 1, 0);
        x.person(0, 0, 1, 0);
        x.person(0, 0, 1, 1);
        Cases.night(x, "heavy 0");
        due("going(3, 0, 0) of 0", x.going(3, 0, 0), 1);
        due("going(4, 0, 0) of 1", x.going(4, 0, 0), 0);
        due("going(5, 0, 0) of 1", x.going(5, 0, 0), 0);
    }

    static void p07_sixOfTheMostWeight() {
        Cases.says("heavy (99)");
        LanternBridge x = new LanternBridge();
        for (int i = 0; i < 6; i++) x.person(0, 0, 1, 9);
        Cases.night(x, "bears 6");
        due("going(63, 0, 0)", x.going(63, 0, 0), 1);
        Cases.night(x, "bears 6;heavy 54");
        due("going(63, 0, 0), heavy 54", x.going(63, 0, 0), 1);
        Cases.night(x, "bears 6;heavy 53");
        due("going(63, 0, 0), heavy 53", x.going(63, 0, 0), 0);
    }

    static void p07_aBarForOneOfThem() {
        Cases.says("E of no bar holds for any of them");
        LanternBridge x = Cases.walkersIn("bears 3;bar p=2;bar p=0&b=1", 1, 1, 1);
        due("going(3, 0, 0)", x.going(3, 0, 0), 1);
        due("going(7, 0, 0)", x.going(7, 0, 0), 0);
        due("going(4, 0, 0)", x.going(4, 0, 0), 0);
        due("going(3, 1, 0)", x.going(3, 1, 0), 0);
        due("going(2, 1, 0)", x.going(2, 1, 0), 1);
    }

    static void p07_whereverTheyAre() {
        Cases.says("A GOING of a set over (way 0) or back (1), wherever they are");
        LanternBridge x = Cases.walkers(1, 2);
        x.go(1);
        for (int set = 1; set < 4; set++) {
            for (int way = 0; way < 2; way++) {
                due("going(" + set + ", " + way + ", 0)", x.going(set, way, 0), 1);
                due("going(" + set + ", " + way + ", 1)", x.going(set, way, 1), set == 1 ? 1 : 2);
            }
        }
    }

    static void p07_noOilIsLookedAt() {
        Cases.says("It CAN be, if their WEIGHT, together, is heavy or less, and E of no bar holds for any of them.");
        LanternBridge x = Cases.walkersIn("oil 1", 5);
        due("going(1, 0, 0)", x.going(1, 0, 0), 1);
        due("going(1, 0, 1)", x.going(1, 0, 1), 5);
    }

    static void p07_oneMinuteAtLeastAlone() {
        Cases.says("QUICK, LEADING: v less, if nobody else goes.");
        for (int kind : new int[] {1, 4}) {
            due("PACE 8, v 9, KIND " + kind, one(kind, 9, 8).going(1, 0, 1), 1);
            due("PACE 9, v 9, KIND " + kind, one(kind, 9, 9).going(1, 1, 1), 1);
            due("PACE 10, v 9, KIND " + kind, one(kind, 9, 10).going(1, 0, 1), 1);
            due("PACE 11, v 9, KIND " + kind, one(kind, 9, 11).going(1, 1, 1), 2);
            due("PACE 1, v 9, KIND " + kind, one(kind, 9, 1).going(1, 0, 1), 1);
            due("PACE 1, v 0, KIND " + kind, one(kind, 0, 1).going(1, 0, 1), 1);
        }
    }

    static void p07_oneMinuteAtLeastWithALeadingOne() {
        Cases.says("Then 1 less, if another one who goes is LEADING. 1 at least.");
        LanternBridge x = new LanternBridge();
        x.person(0, 0, 1, 5);
        x.person(4, 0, 1, 5);
        x.person(4, 0, 2, 5);
        due("going(3, 0, 1): 1 stays 1", x.going(3, 0, 1), 1);
        due("going(6, 0, 1): 1 stays 1, 2 is 1", x.going(6, 0, 1), 1);
        due("going(5, 0, 1): the one who leads is as slow as ever", x.going(5, 0, 1), 2);
        due("going(4, 0, 1): nobody leads oneself", x.going(4, 0, 1), 2);
    }

    static void p07_twoLeadingOnes() {
        Cases.says("Then 1 less, if another one who goes is LEADING.");
        LanternBridge x = new LanternBridge();
        x.person(0, 0, 9, 5);
        x.person(4, 0, 7, 5);
        x.person(4, 0, 7, 5);
        due("going(7, 0, 1): 1 less, not 2", x.going(7, 0, 1), 8);
        due("going(6, 0, 1): each leads the other", x.going(6, 0, 1), 6);
    }

    static void p07_slowIsAddedAheadOfTheLeastOne() {
        Cases.says("One in it TAKES: PACE, and the n of all slow whose E holds");
        LanternBridge x = one(1, 9, 2);
        Cases.night(x, "slow 5 b=0;slow 4 p=0;slow 0 p=0");
        due("going(1, 0, 1): 2 and 9 less 9", x.going(1, 0, 1), 2);
        due("going(1, 1, 1): 2 and 4 less 9", x.going(1, 1, 1), 1);
    }

    static void p07_theMostThatIsSlow() {
        Cases.says("One in it TAKES: PACE, and the n of all slow whose E holds");
        LanternBridge x = Cases.walkersIn("slow 99 p=0;".repeat(7) + "slow 99 p=0", 30);
        due("going(1, 0, 1)", x.going(1, 0, 1), 822);
    }

    static void p07_quickOnlyIfNobodyElseGoes() {
        Cases.says("QUICK, LEADING: v less, if nobody else goes.");
        for (int kind : new int[] {1, 4}) {
            LanternBridge x = beside(kind, 4);
            due("alone, KIND " + kind, x.going(1, 0, 1), 2);
            due("with another one, KIND " + kind, x.going(3, 0, 1), 5);
        }
    }

    static void p07_lameByTheWeightBeside() {
        Cases.says("LAME, CARRIED: v more, if nobody of more WEIGHT than their own goes, too");
        due("alone", beside(2, 9).going(1, 0, 1), 8);
        due("with one of 3, less than 4", beside(2, 3).going(3, 0, 1), 8);
        due("with one of 4, just as much", beside(2, 4).going(3, 0, 1), 8);
        due("with one of 5, more than 4", beside(2, 5).going(3, 0, 1), 5);
    }

    static void p07_lameByTheWeightOfAnyOtherOne() {
        Cases.says("if nobody of more WEIGHT than their own goes, too");
        for (int lame = 0; lame < 6; lame++) {
            for (int heavier = 0; heavier < 6; heavier++) {
                if (lame == heavier) continue;
                LanternBridge x = new LanternBridge();
                for (int i = 0; i < 6; i++) x.person(i == lame ? 2 : 0, 3, i == lame ? 5 : 1, i == heavier ? 5 : 4);
                String who = "LAME " + lame + ", heavier " + heavier;
                due(who + ", both", x.going(1 << lame | 1 << heavier, 0, 1), 5);
                due(who + ", all", x.going(63, 0, 1), 5);
                due(who + ", all but that one", x.going(63 & ~(1 << heavier), 0, 1), 8);
            }
        }
    }

    static void p07_lameOfTheMostWeight() {
        Cases.says("LAME, CARRIED: v more, if nobody of more WEIGHT than their own goes, too");
        LanternBridge x = new LanternBridge();
        x.person(2, 9, 1, 9);
        x.person(0, 0, 1, 9);
        due("going(3, 0, 1)", x.going(3, 0, 1), 10);
    }

    static void p07_carriedIsHalvedIfOthersGo() {
        Cases.says("CARRIED: then the half of all that, rounded up, if others go.");
        due("alone: not halved", beside(5, 9).going(1, 0, 1), 8);
        due("8 with one of just as much WEIGHT", beside(5, 4).going(3, 0, 1), 4);
        due("5 with one of more WEIGHT, rounded up", beside(5, 5).going(3, 0, 1), 3);
    }

    static void p07_carriedRoundedUp() {
        Cases.says("the half of all that, rounded up");
        int[] half = {0, 1, 1, 2, 2, 3, 3, 4};
        for (int pace = 1; pace < 8; pace++) {
            LanternBridge x = new LanternBridge();
            x.person(5, 9, pace, 4);
            x.person(0, 0, 1, 5);
            due("PACE " + pace, x.going(3, 0, 1), half[pace]);
        }
    }

    static void p07_carriedHalvesSlowToo() {
        Cases.says("CARRIED: then the half of all that, rounded up, if others go.");
        LanternBridge x = beside(5, 4);
        Cases.night(x, "slow 5 p=0");
        due("going(3, 0, 1): the half of 5 and 5 and 3", x.going(3, 0, 1), 7);
    }

    static void p07_carriedIsHalvedAheadOfTheLeadingOne() {
        Cases.says("Then 1 less, if another one who goes is LEADING. 1 at least.");
        LanternBridge x = new LanternBridge();
        x.person(5, 0, 8, 4);
        x.person(4, 0, 1, 5);
        due("going(3, 0, 1): the half of 8, then 1 less", x.going(3, 0, 1), 3);
    }

    static void p07_tiedBesideTheirNeighbours() {
        Cases.says("TIED, TIRING: v more, if neither the one whose number is 1 less nor the one whose number is 1 more goes, too");
        LanternBridge x = new LanternBridge();
        for (int i = 0; i < 6; i++) x.person(i == 2 ? 3 : 0, i == 2 ? 4 : 0, i == 2 ? 9 : 1, 5);
        due("alone", x.going(4, 0, 1), 13);
        due("with number 1", x.going(6, 0, 1), 9);
        due("with number 3", x.going(12, 0, 1), 9);
        due("with both", x.going(14, 0, 1), 9);
        due("with number 0", x.going(5, 0, 1), 13);
        due("with number 4", x.going(20, 0, 1), 13);
        due("with number 5", x.going(36, 0, 1), 13);
    }

    static void p07_tiedAtTheEndsOfTheRow() {
        Cases.says("the one whose number is 1 less nor the one whose number is 1 more");
        LanternBridge x = new LanternBridge();
        for (int i = 0; i < 6; i++) x.person(i == 0 || i == 5 ? 3 : 0, 4, 9, 5);
        due("number 0 and 5: nobody is next to nobody", x.going(33, 0, 1), 13);
        due("number 0 alone", x.going(1, 0, 1), 13);
        due("number 5 alone", x.going(32, 0, 1), 13);
        due("number 0 and 1", x.going(3, 0, 1), 9);
        due("number 4 and 5", x.going(48, 0, 1), 9);
    }

    static void p07_tiringBack() {
        Cases.says("TIRING: and v more back.");
        LanternBridge x = beside(6, 4);
        due("alone over", x.going(1, 0, 1), 8);
        due("alone back", x.going(1, 1, 1), 11);
        due("with the next one over", x.going(3, 0, 1), 5);
        due("with the next one back", x.going(3, 1, 1), 8);
        due("TIED alone back", beside(3, 4).going(1, 1, 1), 8);
    }

    static void p07_itChangesNothing() {
        Cases.says("They change nothing.");
        Cases.refused("going(1, 2, 0)", Cases::busy, x -> x.going(1, 2, 0), NONE);
        Cases.refused("going(1, 0, 2)", Cases::busy, x -> x.going(1, 0, 2), NONE);
        Cases.refused("going(8, 0, 0)", Cases::busy, x -> x.going(8, 0, 0), BAD);
        Cases.refused("going(0, 0, 0)", Cases::busy, x -> x.going(0, 0, 0), BAD);
        Cases.changesNothing("going(3, 0, 0)", Cases::busy, x -> x.going(3, 0, 0));
        Cases.changesNothing("going(5, 1, 1)", Cases::busy, x -> x.going(5, 1, 1));
    }

    // ---- promise 8: go

    static void p08_anEmptySet() {
        Cases.says("BAD: set, or it is empty");
        due("go(0)", Cases.walkers(1, 2).go(0), BAD);
    }

    static void p08_aSetOfSomeWhoAreNotThere() {
        Cases.says("(a set: bits of PEOPLE that are not there)");
        LanternBridge x = Cases.walkers(1, 2, 3);
        badSets("go", x::go);
        due("told(4)", x.told(4), 0);
    }

    static void p08_moreThanTheBridgeBears() {
        Cases.says("STATE: it is no GOING");
        LanternBridge x = Cases.walkersIn("bears 3", 1, 2, 3, 4);
        due("go(15)", x.go(15), STATE);
        due("go(7)", x.go(7), 3);
        LanternBridge y = Cases.walkersIn("bears 0", 1);
        due("go(1), bears 0", y.go(1), STATE);
    }

    static void p08_notOnTheBankOfTheLantern() {
        Cases.says("all on the bank of THE LANTERN");
        LanternBridge x = Cases.walkers(1, 2, 3);
        due("go(1)", x.go(1), 1);
        due("go(2): on the near bank, the lantern is far", x.go(2), STATE);
        due("go(3): one of them is", x.go(3), STATE);
        due("go(1) back", x.go(1), 1);
        due("go(2)", x.go(2), 2);
        due("go(2) back", x.go(2), 2);
        due("go(6)", x.go(6), 3);
        due("go(2) back", x.go(2), 2);
        due("go(4): on the far bank, the lantern is near", x.go(4), STATE);
        due("go(6): one of them is", x.go(6), STATE);
    }

    static void p08_tooHeavy() {
        Cases.says("STATE: it is no GOING, it CAN not be");
        LanternBridge x = Cases.walkersIn("heavy 9", 1, 2);
        due("go(3) of 10, heavy 9", x.go(3), STATE);
        Cases.night(x, "heavy 10");
        due("go(3) of 10, heavy 10", x.go(3), 2);
    }

    static void p08_barred() {
        Cases.says("STATE: it is no GOING, it CAN not be");
        LanternBridge x = Cases.walkersIn("bar p=0&b=1;bar p=1&n=1&b=0", 1, 2);
        due("go(2): barred over alone", x.go(2), STATE);
        due("go(3)", x.go(3), 2);
        due("go(1): barred back", x.go(1), STATE);
        due("go(3): barred back with another one", x.go(3), STATE);
        due("go(2) back", x.go(2), 2);
    }

    static void p08_justEnoughOil() {
        Cases.says("but, if oil is above 0, not, if MINUTE would be above oil then.");
        LanternBridge x = Cases.walkersIn("oil 8", 2, 6);
        due("go(3)", x.go(3), 6);
        due("go(1): 8 of 8", x.go(1), 2);
        due("told(3)", x.told(3), 8);
    }

    static void p08_tooLittleOilByOne() {
        Cases.says("or there is too little oil");
        LanternBridge x = Cases.walkersIn("oil 7", 2, 6);
        due("go(3)", x.go(3), 6);
        due("go(1): 8 of 7", x.go(1), STATE);
        due("told(3)", x.told(3), 6);
        due("told(4)", x.told(4), 1);
        due("told(5)", x.told(5), 1);
        due("told(6)", x.told(6), 3);
    }

    static void p08_noOilIsLeft() {
        Cases.says("or there is too little oil");
        LanternBridge x = Cases.walkersIn("oil 1", 1);
        due("go(1)", x.go(1), 1);
        due("go(1): 2 of 1", x.go(1), STATE);
    }

    static void p08_lessOilThanTheMinute() {
        Cases.says("or there is too little oil");
        LanternBridge x = Cases.walkers(5);
        x.go(1);
        Cases.night(x, "oil 1");
        due("go(1): 10 of 1", x.go(1), STATE);
        Cases.night(x, "oil 10");
        due("go(1): 10 of 10", x.go(1), 5);
    }

    static void p08_noEndOfOil() {
        Cases.says("oil (0: there is no end of it)");
        LanternBridge x = Cases.walkersIn("oil 5;oil 0", 30);
        for (int i = 0; i < 10; i++) due("go(1)", x.go(1), 30);
        due("told(3)", x.told(3), 300);
    }

    static void p08_badAheadOfState() {
        Cases.says("BAD: set, or it is empty; STATE: it is no GOING, it CAN not be, or there is too little oil.");
        LanternBridge x = Cases.walkersIn("bears 0;heavy 0;bar n>0", 1, 2, 3);
        badSets("go", x::go);
        due("go(0)", x.go(0), BAD);
        due("go(7)", x.go(7), STATE);
    }

    static void p08_aRefusedGoingChangesNothing() {
        Cases.says("They change nothing.");
        Cases.refused("go(0)", Cases::busy, x -> x.go(0), BAD);
        Cases.refused("go(8)", Cases::busy, x -> x.go(8), BAD);
        Cases.refused("go(2): on the far bank", Cases::busy, x -> x.go(2), STATE);
        Cases.refused("go(7): too many", Cases::busy, x -> x.go(7), STATE);
        Cases.refused("go(4): barred", Cases::busy, x -> x.go(4), STATE);
        Cases.refused("go(5): too heavy", () -> in("heavy 6"), x -> x.go(5), STATE);
        Cases.refused("go(5): too little oil", () -> in("oil 8"), x -> x.go(5), STATE);
    }

    /** A busy one in another NIGHT. */
    private static LanternBridge in(String text) {
        LanternBridge x = Cases.busy();
        x.night();
        Cases.night(x, text);
        return Cases.feed(x, "oil 4");
    }

    // ---- promise 9: least

    static void p09_forNobody() {
        Cases.says("LEAST for a set: the least MINUTES, together, of GOINGS behind which all of the set are on the far bank");
        LanternBridge x = Cases.walkersIn("bears 0", 1, 2);
        due("least(0)", x.least(0), 0);
    }

    static void p09_forThoseWhoAreThere() {
        Cases.says("goes on from how all is");
        LanternBridge x = Cases.walkers(1, 2, 3);
        x.go(3);
        due("least(3)", x.least(3), 0);
        due("least(2)", x.least(2), 0);
        due("least(4): 1 back, 3 over", x.least(4), 4);
        due("least(7): 1 back, 3 over", x.least(7), 4);
        x.go(1);
        due("least(2): the lantern is near", x.least(2), 0);
        due("least(3)", x.least(3), 1);
    }

    static void p09_byNone() {
        Cases.says("(-5: by none)");
        LanternBridge x = Cases.walkersIn("bears 0", 1, 2);
        due("least(1), bears 0", x.least(1), NO_WAY);
        LanternBridge y = Cases.walkersIn("bears 1", 1, 2);
        due("least(3), bears 1", y.least(3), NO_WAY);
        due("least(2), bears 1", y.least(2), 2);
        LanternBridge z = Cases.walkersIn("bar b=1", 1, 2, 3);
        due("least(3), nobody comes back", z.least(3), 2);
        due("least(7), nobody comes back", z.least(7), NO_WAY);
        z.go(3);
        due("least(4), nobody comes back", z.least(4), NO_WAY);
        due("least(3), they are there", z.least(3), 0);
    }

    static void p09_aSetOfSomeWhoAreNotThere() {
        Cases.says("LEAST; -5. BAD: set.");
        LanternBridge x = Cases.walkers(1, 2, 3);
        badSets("least", x::least);
        LanternBridge y = Cases.walkersIn("bears 0", 1, 2, 3);
        badSets("least, ahead of -5,", y::least);
    }

    static void p09_noEndOfOil() {
        Cases.says("All that follows is asked, goes on from how all is, knows no end of oil, and changes nothing.");
        LanternBridge x = Cases.walkersIn("oil 1", 1, 2, 5, 10);
        due("least(15)", x.least(15), 17);
    }

    static void p09_moreThanAThousandMinutes() {
        Cases.says("the least MINUTES, together");
        LanternBridge x = Cases.walkersIn(SLOW_NIGHT, 30, 30, 30, 30, 30, 30);
        due("least(63): nine goings of 333", x.least(63), 2997);
    }

    static void p09_itChangesNothing() {
        Cases.says("and changes nothing");
        Cases.refused("least(8)", Cases::busy, x -> x.least(8), BAD);
        Cases.changesNothing("least(7)", Cases::busy, x -> x.least(7));
    }

    // ---- promise 10: fewest

    static void p10_forNobody() {
        Cases.says("FEWEST for it: how many GOINGS there are at least so (-5: by none).");
        LanternBridge x = Cases.walkersIn("bears 0", 1, 2);
        due("fewest(0)", x.fewest(0), 0);
    }

    static void p10_forThoseWhoAreThere() {
        Cases.says("goes on from how all is");
        LanternBridge x = Cases.walkers(1, 2, 3);
        x.go(3);
        due("fewest(3)", x.fewest(3), 0);
        due("fewest(7)", x.fewest(7), 2);
        x.go(1);
        due("fewest(2): the lantern is near", x.fewest(2), 0);
        due("fewest(7)", x.fewest(7), 1);
    }

    static void p10_byNone() {
        Cases.says("(-5: by none)");
        due("fewest(1), bears 0", Cases.walkersIn("bears 0", 1).fewest(1), NO_WAY);
        due("fewest(3), bears 1", Cases.walkersIn("bears 1", 1, 2).fewest(3), NO_WAY);
        due("fewest(7), nobody comes back", Cases.walkersIn("bar b=1", 1, 2, 3).fewest(7), NO_WAY);
    }

    static void p10_aSetOfSomeWhoAreNotThere() {
        Cases.says("FEWEST; -5. BAD.");
        LanternBridge x = Cases.walkers(1, 2, 3);
        badSets("fewest", x::fewest);
        LanternBridge y = Cases.walkersIn("bears 0", 1, 2, 3);
        badSets("fewest, ahead of -5,", y::fewest);
    }

    static void p10_howeverSlow() {
        Cases.says("how many GOINGS there are at least so");
        LanternBridge x = Cases.walkersIn("bears 3;slow 99 n=3", 1, 2, 3);
        due("fewest(7)", x.fewest(7), 1);
        due("least(7): by three goings", x.least(7), 6);
    }

    static void p10_theMostThatAreNeeded() {
        Cases.says("how many GOINGS there are at least so");
        due("fewest(63)", Cases.walkersIn("oil 1", 1, 2, 3, 4, 5, 6).fewest(63), 9);
    }

    static void p10_itChangesNothing() {
        Cases.says("and changes nothing");
        Cases.refused("fewest(8)", Cases::busy, x -> x.fewest(8), BAD);
        Cases.changesNothing("fewest(7)", Cases::busy, x -> x.fewest(7));
    }

    // ---- promise 11: first

    static void p11_noGoingIsNeeded() {
        Cases.says("(-5: none, or no GOING is needed)");
        LanternBridge x = Cases.walkers(1, 2, 3);
        due("first(0)", x.first(0), NO_WAY);
        x.go(3);
        due("first(3)", x.first(3), NO_WAY);
        due("first(2)", x.first(2), NO_WAY);
        due("first(4)", x.first(4), 1);
    }

    static void p11_byNone() {
        Cases.says("(-5: none, or no GOING is needed)");
        due("first(1), bears 0", Cases.walkersIn("bears 0", 1).first(1), NO_WAY);
        due("first(3), bears 1", Cases.walkersIn("bears 1", 1, 2).first(3), NO_WAY);
        due("first(7), nobody comes back", Cases.walkersIn("bar b=1", 1, 2, 3).first(7), NO_WAY);
    }

    static void p11_aSetOfSomeWhoAreNotThere() {
        Cases.says("FIRST; -5. BAD.");
        LanternBridge x = Cases.walkers(1, 2, 3);
        badSets("first", x::first);
        LanternBridge y = Cases.walkersIn("bears 0", 1, 2, 3);
        badSets("first, ahead of -5,", y::first);
    }

    static void p11_ofSeveralTheLeastSet() {
        Cases.says("of those rows of GOINGS by which it is LEAST the least set (as bits) that goes first");
        LanternBridge x = Cases.walkers(5, 5, 5);
        due("first(1): 1, 3 and 5 are", x.first(1), 1);
        due("first(4): 4, 5 and 6 are", x.first(4), 4);
        due("first(7): 3, 5 and 6 are", x.first(7), 3);
    }

    static void p11_aGreaterSetThatIsTheOnlyOne() {
        Cases.says("of those rows of GOINGS by which it is LEAST");
        LanternBridge x = new LanternBridge();
        x.person(2, 9, 2, 1);
        x.person(0, 0, 1, 9);
        due("least(1): 2 together, 11 alone", x.least(1), 2);
        due("first(1)", x.first(1), 3);
    }

    static void p11_oneMinute() {
        Cases.says("(-5: none, or no GOING is needed)");
        due("first(1)", Cases.walkers(1).first(1), 1);
    }

    static void p11_aLesserSetThatCanNotBe() {
        Cases.says("of those rows of GOINGS by which it is LEAST");
        LanternBridge x = Cases.walkersIn("bar p=0&n=1&b=0", 5, 5);
        due("first(1): 0 is barred alone", x.first(1), 3);
        LanternBridge y = Cases.walkersIn("bar p=0&n=1&b=1", 5, 5, 9);
        y.go(3);
        due("first(4): 0 is barred alone", y.first(4), 2);
    }

    static void p11_aLesserSetOnTheOtherBank() {
        Cases.says("all on the bank of THE LANTERN");
        LanternBridge x = Cases.walkers(5, 5, 5);
        x.go(2);
        due("first(4): 0 is on the near bank", x.first(4), 2);
    }

    static void p11_aLesserSetBehindWhichThereIsNone() {
        Cases.says("of those rows of GOINGS by which it is LEAST");
        due("first(2): behind 0 nobody comes back", Cases.walkersIn("bar b=1", 10, 5).first(2), 2);
    }

    static void p11_slowerOneWay() {
        Cases.says("of those rows of GOINGS by which it is LEAST");
        LanternBridge x = Cases.walkersIn("slow 9 p=0&b=0;slow 9 p=1&b=1", 1, 2, 3);
        due("first(4)", x.first(4), 4);
        due("first(7): 5 and 6 are", x.first(7), 5);
        due("least(7): 0 and 2 over, 2 back, 1 and 2 over", x.least(7), 10 + 3 + 3);
        x.go(3);
        due("first(4): 0 back takes 1", x.first(4), 1);
    }

    static void p11_theFirstGoesBack() {
        Cases.says("goes on from how all is");
        LanternBridge x = Cases.walkers(1, 2, 5, 10);
        x.go(12);
        due("first(15): the lantern is far", x.first(15), 4);
    }

    static void p11_noEndOfOil() {
        Cases.says("knows no end of oil");
        due("first(15)", Cases.walkersIn("oil 1", 1, 2, 5, 10).first(15), 3);
    }

    static void p11_itChangesNothing() {
        Cases.says("and changes nothing");
        Cases.refused("first(8)", Cases::busy, x -> x.first(8), BAD);
        Cases.changesNothing("first(7)", Cases::busy, x -> x.first(7));
    }

    // ---- promise 12: by

    static void p12_mTooSmall() {
        Cases.says("BY m (0 .. 999)");
        LanternBridge x = Cases.walkers(1);
        for (int m : new int[] {-1, -2, MIN}) {
            due("by(" + m + ", 0)", x.by(m, 0), BAD);
            due("by(" + m + ", 1)", x.by(m, 1), BAD);
        }
    }

    static void p12_mTooLarge() {
        Cases.says("BY m (0 .. 999)");
        LanternBridge x = Cases.walkers(1);
        for (int m : new int[] {1000, 1001, MAX}) {
            due("by(" + m + ", 0)", x.by(m, 0), BAD);
            due("by(" + m + ", 1)", x.by(m, 1), BAD);
        }
    }

    static void p12_theLeastM() {
        Cases.says("BY m (0 .. 999)");
        LanternBridge x = Cases.walkers(1, 2, 3);
        due("by(0, 0)", x.by(0, 0), 0);
        due("by(0, 1)", x.by(0, 1), 0);
        x.go(6);
        due("by(0, 0): two are there", x.by(0, 0), 2);
        due("by(0, 1)", x.by(0, 1), 6);
    }

    static void p12_theGreatestM() {
        Cases.says("BY m (0 .. 999)");
        LanternBridge x = Cases.walkersIn(SLOW_NIGHT, 30, 30, 30);
        due("least(7)", x.least(7), 999);
        due("by(999, 0)", x.by(999, 0), 3);
        due("by(999, 1)", x.by(999, 1), 7);
        due("by(998, 0)", x.by(998, 0), 2);
        LanternBridge y = Cases.walkersIn(SLOW_NIGHT + ";slow 1 b=1", 30, 30, 30);
        due("least(7)", y.least(7), 1000);
        due("by(999, 0)", y.by(999, 0), 2);
        due("by(999, 1)", y.by(999, 1), 3);
    }

    static void p12_mMinutesOrFewer() {
        Cases.says("behind GOINGS of m MINUTES or fewer, together");
        LanternBridge x = Cases.walkers(1, 2, 5, 10);
        int[][] want = {{0, 0}, {1, 1}, {2, 3}, {7, 3}, {8, 7}, {16, 7}, {17, 15}, {18, 15}};
        for (int[] w : want) {
            due("by(" + w[0] + ", 1)", x.by(w[0], 1), w[1]);
            due("by(" + w[0] + ", 0)", x.by(w[0], 0), Integer.bitCount(w[1]));
        }
    }

    static void p12_slowerOneWay() {
        Cases.says("behind GOINGS of m MINUTES or fewer, together");
        LanternBridge x = Cases.walkersIn("slow 3 b=1", 1, 2, 5);
        due("by(10, 0)", x.by(10, 0), 2);
        due("by(11, 0): 2, 4 back, 5", x.by(11, 0), 3);
        x.go(3);
        due("by(8, 0)", x.by(8, 0), 2);
        due("by(9, 0): 4 back, 5", x.by(9, 0), 3);
    }

    static void p12_ofSeveralSetsTheLeast() {
        Cases.says("who: of several sets the least as bits");
        LanternBridge x = Cases.walkers(9, 4, 4);
        due("by(3, 1): nobody", x.by(3, 1), 0);
        due("by(4, 1): 6 alone", x.by(4, 1), 6);
        due("by(8, 1): 6 alone", x.by(8, 1), 6);
        due("by(9, 1): 3, 5 and 6", x.by(9, 1), 3);
    }

    static void p12_whatThatIsNone() {
        Cases.says("what 0 how many, 1 who (bits). NONE; BAD.");
        LanternBridge x = Cases.walkers(1);
        for (int what : new int[] {-1, 2, MIN, MAX}) due("by(5, " + what + ")", x.by(5, what), NONE);
    }

    static void p12_noneAheadOfBad() {
        Cases.says("NONE; BAD.");
        LanternBridge x = Cases.walkers(1);
        due("by(-1, 2)", x.by(-1, 2), NONE);
        due("by(1000, -1)", x.by(1000, -1), NONE);
    }

    static void p12_noEndOfOilAndNoGoing() {
        Cases.says("knows no end of oil");
        due("by(17, 0), oil 1", Cases.walkersIn("oil 1", 1, 2, 5, 10).by(17, 0), 4);
        due("by(999, 0), bears 0", Cases.walkersIn("bears 0", 1, 2).by(999, 0), 0);
        due("by(999, 1), bears 0", Cases.walkersIn("bears 0", 1, 2).by(999, 1), 0);
    }

    static void p12_itChangesNothing() {
        Cases.says("and changes nothing");
        Cases.refused("by(5, 2)", Cases::busy, x -> x.by(5, 2), NONE);
        Cases.refused("by(1000, 0)", Cases::busy, x -> x.by(1000, 0), BAD);
        Cases.changesNothing("by(9, 0)", Cases::busy, x -> x.by(9, 0));
    }
}
