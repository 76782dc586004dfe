/** For each promise: ordinary inputs, the edges that the document names, wrong inputs; answers reckoned by hand. */
public final class PromisesTest {
    private static final int NONE = -1, BAD = -2, STATE = -3, FULL = -4, NO_WAY = -5;
    private static int wrong = 0;
    private static String promise = "";

    private static void due(String call, long got, long want) {
        if (got == want) return;
        wrong++;
        System.out.println("promise " + promise + ": " + call + " answered " + got + ", due is " + want);
    }

    private static int night(LanternBridge x, String text) {
        for (int i = 0; i < text.length(); i++) x.feed(text.charAt(i));
        return x.night();
    }

    private static void nightDue(String text, int want) {
        due("night of \"" + text + "\"", night(new LanternBridge(), text), want);
    }

    /** WALKERS of WEIGHT 5 and these paces. */
    private static LanternBridge walkers(int... paces) {
        LanternBridge x = new LanternBridge();
        for (int pace : paces) x.person(0, 0, pace, 5);
        return x;
    }

    public static void main(String[] args) {
        newObject();
        feed();
        nightFaults();
        nightNumbers();
        nightOfTen();
        nightTests();
        person();
        of();
        told();
        goingByKind();
        goingRefusals();
        go();
        least();
        fewest();
        first();
        by();
        quicker();
        leave();
        rule();
        ruleNoWay();
        seen();
        span();
        chance();
        book();
        looked();
        act();
        trace();
        as();
        image();
        undo();
        count();
        System.out.println(wrong == 0 ? "all answers are as due" : wrong + " answers are not as due");
        if (wrong != 0) System.exit(1);
    }

    private static void newObject() {
        promise = "1";
        LanternBridge x = new LanternBridge();
        for (int what = 0; what <= 5; what++) due("count(" + what + ")", x.count(what), 0);
        due("told(0)", x.told(0), 2);
        due("told(1)", x.told(1), 99);
        for (int what = 2; what <= 6; what++) due("told(" + what + ")", x.told(what), 0);
        due("of(0, 0)", x.of(0, 0), NONE);
        due("going(1, 0, 0)", x.going(1, 0, 0), BAD);
        due("go(1)", x.go(1), BAD);
        due("least(0)", x.least(0), 0);
        due("least(1)", x.least(1), BAD);
        due("by(999, 1)", x.by(999, 1), 0);
        due("rule(3, 1)", x.rule(3, 1), 0);
        due("leave()", x.leave(), NO_WAY);
        due("undo()", x.undo(), STATE);
        due("looked(0)", x.looked(0), NO_WAY);
        due("looked(1)", x.looked(1), 0);
        due("trace(0)", x.trace(0), NONE);
    }

    private static void feed() {
        promise = "2";
        LanternBridge x = new LanternBridge();
        due("feed(-1)", x.feed(-1), BAD);
        due("feed(128)", x.feed(128), BAD);
        due("feed(0)", x.feed(0), 1);
        due("feed(127)", x.feed(127), 2);
        for (int i = 3; i <= 100; i++) due("feed(32)", x.feed(32), i);
        due("feed(32) when full", x.feed(32), FULL);
        due("feed(128) when full", x.feed(128), BAD);
        due("count(4)", x.count(4), 100);
        due("night()", x.night(), -10);
        due("feed(32) behind night()", x.feed(32), 1);
    }

    private static void nightFaults() {
        promise = "3";
        nightDue("", -10);
        nightDue("x", -10);
        nightDue(" p=1", -10);
        nightDue("oil 1; p=1", -16);
        nightDue("s", -11);
        nightDue("b", -11);
        nightDue("bx", -11);
        nightDue("ba", -12);
        nightDue("bas", -12);
        nightDue("bear", -14);
        nightDue("bears", -15);
        nightDue("bears1", -15);
        nightDue("bears ", -16);
        nightDue("bears  1", -16);
        nightDue("bears /", -16);
        nightDue("bears :", -16);
        nightDue("bears 1/", -17);
        nightDue("bears 1:", -17);
        nightDue("bears 1", 0);
        nightDue("bears 01", -17);
        nightDue("bears 10", 0);
        nightDue("bears 100", -18);
        nightDue("bears 1 ", -17);
        nightDue("Bears 1", -10);
        nightDue("oil 0;", -16);
        nightDue("oil 0;;", -16);
        nightDue("oil 0;heavy 0", 0);
        nightDue("oil 0 ;heavy 0", -15);
        nightDue("slow 1", -16);
        nightDue("slow 1p=1", -16);
        nightDue("slow 1 ", -17);
        nightDue("slow p=1", -15);
        nightDue("slow 1 p=1", 0);
        nightDue("bar p", -15);
        nightDue("bar p1", -15);
        nightDue("bar p=", -16);
        nightDue("bar p=p", -16);
        nightDue("bar p=99", 0);
        nightDue("bar p=999", -18);
        nightDue("bar p=00", -17);
        nightDue("bar c=1", -14);
        nightDue("bar p=1)", -17);
        nightDue("bar (p=1", -18);
        nightDue("bar (p=1;bar p=1", -18);
        nightDue("bar (p=1)(p=1)", -19);
        nightDue("bar ()", -15);
        nightDue("bar p=1&", -18);
        nightDue("bar p=1||k=1", -18);
        nightDue("bar !!!!!p=1", 0);
        nightDue("bar !!!!!!p=1", -19);
        nightDue("bar (((((p=1)))))", 0);
        nightDue("bar ((((((p=1))))))", -19);
        nightDue("bar (!(!(p=1", -22);
        nightDue("bar (!(!((p=1", -19);
        nightDue("bar (!(!(p=1&!p=1", -23);
        nightDue("bar !!!!!p=1&!!!!!k=1|!!!!(w=1)", 0);
        nightDue("bar !!!!(p=1)&(!p=2|(((k=1))))", 0);
        nightDue("oil 1;oil 2;oil 3;oil 4;oil 5;oil 6;oil 7;oil 8;oil 9;oil 0", 0);
        nightDue("oil 1;oil 2;oil 3;oil 4;oil 5;oil 6;oil 7;oil 8;oil 9;oil 0;oil 1", -69);
    }

    private static void nightNumbers() {
        promise = "3";
        LanternBridge x = new LanternBridge();
        due("night 0", night(x, "bears 3;heavy 20;oil 9;bears 4"), 0);
        due("told(0)", x.told(0), 4);
        due("a faulty one", night(x, "bears 5;x"), -18);
        due("told(0): the one that held holds", x.told(0), 4);
        due("count(4): the tape is empty", x.count(4), 0);
        due("night 1", night(x, "heavy 7"), 1);
        due("told(0): the newest one alone holds", x.told(0), 2);
        due("told(1)", x.told(1), 7);
        due("told(2)", x.told(2), 0);
        due("night 2", night(x, "oil 5"), 2);
        due("night 3", night(x, "oil 6"), 3);
        due("night 4", night(x, "oil 7"), 4);
        due("a 6th", night(x, "oil 8"), FULL);
        due("count(4): the tape stays", x.count(4), 5);
        due("told(2)", x.told(2), 7);
        due("count(1)", x.count(1), 5);
    }

    private static void nightOfTen() {
        promise = "3";
        LanternBridge x = walkers(1, 2);
        String slow = "slow 1 p=0";
        String text = slow;
        for (int i = 0; i < 7; i++) text += ";" + slow;
        due("ten clauses", night(x, text + ";oil 7;oil 8"), 0);
        due("going(1, 0, 1): all slow that hold", x.going(1, 0, 1), 9);
        due("going(2, 0, 1)", x.going(2, 0, 1), 2);
        due("going(3, 1, 0)", x.going(3, 1, 0), 1);
        due("told(2): the last one", x.told(2), 8);
        due("least(3)", x.least(3), 9);
    }

    /** One of number 1, KIND 1, WEIGHT 3, and what makes that one slower by 50. */
    private static void slowDue(String e, int set, int way, boolean want) {
        LanternBridge x = new LanternBridge();
        x.person(0, 0, 1, 0);
        x.person(1, 0, 1, 3);
        x.person(0, 0, 1, 0);
        x.person(0, 0, 1, 0);
        String text = "slow 50 p=1&(" + e + ")";
        due(text, night(x, text), 0);
        due(text + ", going(" + set + ", " + way + ", 1)", x.going(set, way, 1), want ? 51 : 1);
    }

    private static void nightTests() {
        promise = "3";
        slowDue("p=1", 2, 0, true);
        slowDue("p=2", 2, 0, false);
        slowDue("k=1", 2, 0, true);
        slowDue("k=0", 2, 0, false);
        slowDue("w=3", 2, 0, true);
        slowDue("w>2", 2, 0, true);
        slowDue("w>3", 2, 0, false);
        slowDue("w<3", 2, 0, false);
        slowDue("w<4", 2, 0, true);
        slowDue("n=1", 2, 0, true);
        slowDue("n=3", 7, 0, true);
        slowDue("b=0", 2, 0, true);
        slowDue("b=1", 2, 0, false);
        slowDue("b=1", 2, 1, true);
        slowDue("q=9", 2, 0, true);
        slowDue("q=0", 3, 0, true);
        slowDue("q=2", 14, 0, true);
        slowDue("q=3", 10, 0, true);
        slowDue("!p=1", 2, 0, false);
        slowDue("!!p=1", 2, 0, true);
        slowDue("p=1|p=2&p=3", 2, 0, true);
        slowDue("(p=1|p=2)&p=3", 2, 0, false);
        slowDue("p=3&p=2|p=1", 2, 0, true);
        slowDue("!p=2&p=2", 2, 0, false);
        slowDue("!(p=2&p=2)", 2, 0, true);
        slowDue("!p=1|p=1", 2, 0, true);
        slowDue("p=2|p=3|p=1", 2, 0, true);
        slowDue("p=1&k=1&w=4", 2, 0, false);
    }

    private static void person() {
        promise = "4";
        LanternBridge x = new LanternBridge();
        due("person(-1, 10, 0, 10)", x.person(-1, 10, 0, 10), NONE);
        due("person(7, 0, 1, 0)", x.person(7, 0, 1, 0), NONE);
        due("person(0, -1, 1, 0)", x.person(0, -1, 1, 0), BAD);
        due("person(0, 10, 1, 0)", x.person(0, 10, 1, 0), BAD);
        due("person(0, 0, 0, 0)", x.person(0, 0, 0, 0), BAD);
        due("person(0, 0, 31, 0)", x.person(0, 0, 31, 0), BAD);
        due("person(0, 0, 1, -1)", x.person(0, 0, 1, -1), BAD);
        due("person(0, 0, 1, 10)", x.person(0, 0, 1, 10), BAD);
        due("person(6, 9, 30, 9)", x.person(6, 9, 30, 9), 0);
        due("person(0, 0, 1, 0)", x.person(0, 0, 1, 0), 1);
        for (int i = 2; i < 6; i++) due("person(0, 0, 1, 0)", x.person(0, 0, 1, 0), i);
        due("a 7th", x.person(0, 0, 1, 0), FULL);
        due("a 7th, bad", x.person(0, 0, 0, 0), BAD);
        due("a 7th, of no kind", x.person(9, 0, 0, 0), NONE);
        due("count(0)", x.count(0), 6);
        LanternBridge y = walkers(1);
        y.go(1);
        due("person(..) when the lantern is far", y.person(0, 0, 4, 0), 1);
        due("of(1, 4): all come on the near bank", y.of(1, 4), 0);
    }

    private static void of() {
        promise = "5";
        LanternBridge x = new LanternBridge();
        x.person(0, 0, 1, 0);
        x.person(5, 7, 30, 9);
        int[] want = {5, 7, 30, 9, 0};
        for (int what = 0; what < 5; what++) due("of(1, " + what + ")", x.of(1, what), want[what]);
        due("of(1, 5)", x.of(1, 5), NONE);
        due("of(1, -1)", x.of(1, -1), NONE);
        due("of(2, 0)", x.of(2, 0), NONE);
        due("of(-1, 0)", x.of(-1, 0), NONE);
        x.go(2);
        due("of(1, 4)", x.of(1, 4), 1);
        due("of(0, 4)", x.of(0, 4), 0);
    }

    private static void told() {
        promise = "6";
        LanternBridge x = walkers(3, 4);
        night(x, "bears 1;heavy 6;oil 50");
        x.go(2);
        int[] want = {1, 6, 50, 4, 1, 1, 2};
        for (int what = 0; what < 7; what++) due("told(" + what + ")", x.told(what), want[what]);
        due("told(7)", x.told(7), NONE);
        due("told(-1)", x.told(-1), NONE);
    }

    private static void goingByKind() {
        promise = "7";
        LanternBridge x = new LanternBridge();
        x.person(1, 4, 6, 5);   // 0 QUICK
        x.person(4, 9, 6, 5);   // 1 LEADING
        x.person(2, 3, 6, 5);   // 2 LAME
        x.person(5, 4, 6, 7);   // 3 CARRIED
        x.person(3, 5, 20, 1);  // 4 TIED
        x.person(6, 2, 21, 1);  // 5 TIRING
        due("QUICK alone", x.going(1, 0, 1), 2);
        due("QUICK alone, back", x.going(1, 1, 1), 2);
        due("LEADING alone: 1 at least", x.going(2, 0, 1), 1);
        due("LAME alone", x.going(4, 0, 1), 9);
        due("LAME with one of the same weight who leads", x.going(6, 0, 1), 8);
        due("QUICK with LEADING", x.going(3, 0, 1), 6);
        due("LAME with one heavier, CARRIED 10 halved", x.going(12, 0, 1), 6);
        due("CARRIED alone: not halved", x.going(8, 0, 1), 10);
        due("QUICK not alone, CARRIED halved", x.going(9, 0, 1), 6);
        due("CARRIED halved, then 1 less by LEADING", x.going(10, 0, 1), 6);
        due("TIED alone", x.going(16, 0, 1), 25);
        due("TIED with the one of 1 less", x.going(24, 0, 1), 20);
        due("TIED with the one of 1 more, who is TIRING", x.going(48, 0, 1), 21);
        due("the same back", x.going(48, 1, 1), 23);
        due("TIED with another one", x.going(17, 0, 1), 25);
        due("TIED led by another one", x.going(18, 0, 1), 24);
        due("TIRING alone over", x.going(32, 0, 1), 23);
        due("TIRING alone back", x.going(32, 1, 1), 25);
        due("LEADING does not lead itself", x.going(3, 0, 1), 6);
        LanternBridge y = new LanternBridge();
        y.person(5, 0, 7, 5);
        y.person(0, 0, 1, 9);
        due("half of 7, rounded up", y.going(3, 0, 1), 4);
        LanternBridge z = new LanternBridge();
        z.person(4, 0, 9, 5);
        z.person(4, 0, 9, 5);
        z.person(0, 0, 1, 5);
        due("two LEADING lead one another", z.going(3, 0, 1), 8);
        night(z, "slow 3 k=0;slow 4 n=3;bears 3");
        due("led by two: 1 less, and all slow that hold", z.going(7, 0, 1), 12);
        due("slow 3 alone", z.going(4, 0, 1), 4);
    }

    private static void goingRefusals() {
        promise = "7";
        LanternBridge x = walkers(1, 2, 3);
        due("going(1, 2, 0)", x.going(1, 2, 0), NONE);
        due("going(1, -1, 0)", x.going(1, -1, 0), NONE);
        due("going(1, 0, 2)", x.going(1, 0, 2), NONE);
        due("going(8, 0, -1)", x.going(8, 0, -1), NONE);
        due("going(8, 0, 0)", x.going(8, 0, 0), BAD);
        due("going(-1, 0, 0)", x.going(-1, 0, 0), BAD);
        due("going(0, 0, 1)", x.going(0, 0, 1), BAD);
        due("going(7, 0, 0): bears 2", x.going(7, 0, 0), 0);
        due("going(7, 0, 1)", x.going(7, 0, 1), 3);
        due("going(6, 1, 0): wherever they are", x.going(6, 1, 0), 1);
        night(x, "heavy 9;bears 3");
        due("going(3, 0, 0): heavy", x.going(3, 0, 0), 0);
        due("going(1, 0, 0)", x.going(1, 0, 0), 1);
        night(x, "heavy 10;bars 3");
        night(x, "heavy 10;bar p=1&b=1;oil 1");
        due("going(3, 0, 0): just as heavy", x.going(3, 0, 0), 1);
        due("going(3, 1, 0): barred back", x.going(3, 1, 0), 0);
        due("going(4, 1, 0): no oil is looked at", x.going(4, 1, 0), 1);
        night(x, "bears 0");
        due("going(1, 0, 0): bears nobody", x.going(1, 0, 0), 0);
    }

    private static void go() {
        promise = "8";
        LanternBridge x = walkers(1, 2, 5);
        due("go(0)", x.go(0), BAD);
        due("go(8)", x.go(8), BAD);
        due("go(-1)", x.go(-1), BAD);
        due("go(7): too many", x.go(7), STATE);
        due("go(6)", x.go(6), 5);
        due("go(1): not by the lantern", x.go(1), STATE);
        due("go(3): not all by the lantern", x.go(3), STATE);
        due("told(6)", x.told(6), 6);
        due("go(2)", x.go(2), 2);
        due("told(3)", x.told(3), 7);
        due("told(4)", x.told(4), 2);
        due("told(5)", x.told(5), 0);
        due("told(6)", x.told(6), 4);
        night(x, "oil 8;bar p=1&n=1");
        due("go(3): too little oil", x.go(3), STATE);
        due("go(2): barred", x.go(2), STATE);
        due("go(1): just enough oil", x.go(1), 1);
        due("told(3)", x.told(3), 8);
        due("go(1): no oil is left", x.go(1), STATE);
        due("told(5)", x.told(5), 1);
        night(x, "oil 0");
        due("go(1): no end of oil", x.go(1), 1);
        night(x, "heavy 9");
        due("go(3): heavy", x.go(3), STATE);
    }

    private static void least() {
        promise = "9";
        LanternBridge x = walkers(1, 2, 5, 10);
        due("least(15)", x.least(15), 17);
        due("least(12)", x.least(12), 10);
        due("least(16)", x.least(16), BAD);
        due("least(-1)", x.least(-1), BAD);
        due("least(0)", x.least(0), 0);
        night(x, "oil 1");
        due("least(15): no end of oil", x.least(15), 17);
        night(x, "bears 1");
        due("least(3): one by one", x.least(3), NO_WAY);
        due("least(8)", x.least(8), 10);
        night(x, "bears 4");
        due("least(15): all at once", x.least(15), 10);
        x.go(9);
        due("least(9): they are there", x.least(9), 0);
        due("least(15): from how all is", x.least(15), 6);
    }

    private static void fewest() {
        promise = "10";
        LanternBridge x = walkers(1, 2, 5, 10);
        due("fewest(15)", x.fewest(15), 5);
        due("fewest(7)", x.fewest(7), 3);
        due("fewest(12)", x.fewest(12), 1);
        due("fewest(0)", x.fewest(0), 0);
        due("fewest(16)", x.fewest(16), BAD);
        due("fewest(-2)", x.fewest(-2), BAD);
        night(x, "slow 99 n=3;bears 3");
        due("fewest(7): however slow", x.fewest(7), 1);
        due("least(7)", x.least(7), 8);
        night(x, "bar p=2");
        due("fewest(4)", x.fewest(4), NO_WAY);
    }

    private static void first() {
        promise = "11";
        LanternBridge x = walkers(1, 2, 5, 10);
        due("first(15)", x.first(15), 3);
        due("first(8): the least set", x.first(8), 8);
        due("first(9)", x.first(9), 9);
        due("first(0)", x.first(0), NO_WAY);
        due("first(16)", x.first(16), BAD);
        x.go(3);
        due("first(3): no going is needed", x.first(3), NO_WAY);
        due("first(15): of 1 and 2 the least", x.first(15), 1);
        night(x, "bears 0");
        due("first(15): by none", x.first(15), NO_WAY);
        LanternBridge y = walkers(4, 4, 4);
        due("first(4): of several", y.first(4), 4);
        due("first(7): of several", y.first(7), 3);
    }

    private static void by() {
        promise = "12";
        LanternBridge x = walkers(1, 2, 5, 10);
        due("by(0, 0)", x.by(0, 0), 0);
        due("by(1, 1)", x.by(1, 1), 1);
        due("by(2, 0)", x.by(2, 0), 2);
        due("by(2, 1)", x.by(2, 1), 3);
        due("by(7, 1)", x.by(7, 1), 3);
        due("by(8, 1)", x.by(8, 1), 7);
        due("by(16, 0)", x.by(16, 0), 3);
        due("by(17, 0)", x.by(17, 0), 4);
        due("by(999, 1)", x.by(999, 1), 15);
        due("by(1000, 0)", x.by(1000, 0), BAD);
        due("by(-1, 0)", x.by(-1, 0), BAD);
        due("by(-1, 2)", x.by(-1, 2), NONE);
        due("by(0, -1)", x.by(0, -1), NONE);
        x.go(12);
        due("by(0, 1): those who are there", x.by(0, 1), 12);
    }

    private static void quicker() {
        promise = "13";
        LanternBridge x = walkers(1, 2, 5, 10);
        due("quicker(0): it is 1", x.quicker(0), 0);
        due("quicker(1)", x.quicker(1), 3);
        due("quicker(2)", x.quicker(2), 0);
        due("quicker(3)", x.quicker(3), 1);
        due("quicker(4)", x.quicker(4), NONE);
        due("quicker(-1)", x.quicker(-1), NONE);
        due("of(1, 2): it changes nothing", x.of(1, 2), 2);
        due("least(15): it changes nothing", x.least(15), 17);
        due("going(2, 0, 1): it changes nothing", x.going(2, 0, 1), 2);
        night(x, "bears 1");
        due("quicker(3): no least", x.quicker(3), NO_WAY);
    }

    private static void leave() {
        promise = "14";
        LanternBridge x = walkers(1, 2, 5, 10);
        due("leave()", x.leave(), 3);
        LanternBridge y = walkers(4, 4);
        due("leave(): of several the least", y.leave(), 0);
        LanternBridge z = walkers(7);
        due("leave(): the only one", z.leave(), 0);
        due("leave(): nobody", new LanternBridge().leave(), NO_WAY);
        night(x, "bears 1");
        due("leave(): by none", x.leave(), NO_WAY);
        LanternBridge w = walkers(1, 9, 9);
        w.go(3);
        due("leave(): who has the lantern", w.leave(), 2);
        LanternBridge u = walkers(3, 2);
        night(u, "bar p=1");
        due("leave(): only by one there is a least", u.leave(), 1);
    }

    private static void rule() {
        promise = "15";
        LanternBridge x = walkers(1, 2, 5, 10);
        int[][] want = {{19, 5, 2}, {17, 5, 0}, {19, 5, 2}, {17, 5, 0}};
        for (int r = 0; r < 4; r++) {
            for (int what = 0; what < 3; what++) {
                due("rule(" + r + ", " + what + ")", x.rule(r, what), want[r][what]);
            }
        }
        due("rule(4, 0)", x.rule(4, 0), NONE);
        due("rule(-1, 0)", x.rule(-1, 0), NONE);
        due("rule(0, 3)", x.rule(0, 3), NONE);
        due("rule(0, -1)", x.rule(0, -1), NONE);
        LanternBridge y = walkers(10, 1, 5, 2);
        due("rule(0, 0): 1 and 10, 1, 1 and 5, 1, 1 and 2", y.rule(0, 0), 19);
        due("rule(2, 0): 10 and 1, 1, 1 and 5, 1, 1 and 2", y.rule(2, 0), 19);
        LanternBridge z = walkers(7, 8, 9, 1);
        due("rule(2, 0): 7 and 8, 7, 7 and 9, 7, 7 and 1", z.rule(2, 0), 8 + 7 + 9 + 7 + 7);
        LanternBridge w = walkers(3, 3, 3);
        due("rule(1, 0): 3 are too few for the two", w.rule(1, 0), 9);
        w.go(2);
        due("rule(0, 0): the lantern is far", w.rule(0, 0), 12);
        due("rule(0, 1)", w.rule(0, 1), 4);
        LanternBridge v = walkers(4);
        due("rule(0, 0): one alone", v.rule(0, 0), 4);
        due("rule(2, 1): one alone", v.rule(2, 1), 1);
        v.go(1);
        due("rule(0, 1): nobody is near", v.rule(0, 1), 0);
        LanternBridge u = walkers(2, 2, 1, 20, 20);
        due("rule(1, 0): of the same pace the least number first", u.rule(1, 0), 2 + 1 + 20 + 2 + 2 + 1 + 2);
    }

    private static void ruleNoWay() {
        promise = "15";
        LanternBridge x = walkers(1, 2, 5, 10);
        night(x, "bar p=0&q=3");
        due("rule(0, 0): 0 and 3 go not", x.rule(0, 0), NO_WAY);
        due("rule(0, 1)", x.rule(0, 1), NO_WAY);
        due("rule(0, 2)", x.rule(0, 2), NO_WAY);
        due("rule(1, 0)", x.rule(1, 0), 17);
        due("rule(2, 0)", x.rule(2, 0), NO_WAY);
        due("rule(3, 0): by 1", x.rule(3, 0), 17);
        night(x, "oil 1");
        due("rule(1, 0): no end of oil", x.rule(1, 0), 17);
        night(x, "bears 1");
        due("rule(3, 0): bears one", x.rule(3, 0), NO_WAY);
        due("rule(3, 1)", x.rule(3, 1), NO_WAY);
        due("rule(3, 2)", x.rule(3, 2), NO_WAY);
        night(x, "bears 4");
        due("rule(1, 2): all could go at once", x.rule(1, 2), 7);
    }

    private static void seen() {
        promise = "16";
        LanternBridge x = walkers(1, 2);
        due("seen(0, 5)", x.seen(0, 5), BAD);
        due("seen(4, 5)", x.seen(4, 5), BAD);
        due("seen(-2, 5)", x.seen(-2, 5), BAD);
        due("seen(3, 0)", x.seen(3, 0), BAD);
        due("seen(3, 100)", x.seen(3, 100), BAD);
        for (int i = 1; i <= 12; i++) due("seen(3, 99)", x.seen(3, 99), i);
        due("a 13th", x.seen(3, 1), FULL);
        due("a 13th, bad", x.seen(3, 0), BAD);
        due("count(2)", x.count(2), 12);
        due("seen(-1, 0)", x.seen(-1, 0), 0);
        due("count(2)", x.count(2), 0);
        due("seen(1, 1)", x.seen(1, 1), 1);
    }

    private static void spanDue(LanternBridge x, int person, int least, int greatest) {
        due("span(" + person + ", 0)", x.span(person, 0), least);
        due("span(" + person + ", 1)", x.span(person, 1), greatest);
    }

    private static void span() {
        promise = "17";
        LanternBridge x = walkers(1, 2, 3, 4);
        spanDue(x, 0, 1, 99);
        x.seen(3, 5);
        spanDue(x, 0, 1, 5);
        spanDue(x, 2, 1, 99);
        x.seen(5, 9);
        spanDue(x, 0, 1, 5);
        spanDue(x, 1, 1, 5);
        spanDue(x, 2, 9, 9);
        x.seen(1, 4);
        spanDue(x, 0, 4, 4);
        spanDue(x, 1, 5, 5);
        due("span(0, 2)", x.span(0, 2), NONE);
        due("span(0, -1)", x.span(0, -1), NONE);
        due("span(4, 0)", x.span(4, 0), NONE);
        x.seen(7, 4);
        spanDue(x, 0, 0, 0);
        spanDue(x, 3, 0, 0);
        x.seen(-1, 5);
        spanDue(x, 3, 1, 99);
        x.seen(8, 1);
        spanDue(x, 3, 1, 1);
    }

    private static void chanceDue(LanternBridge x, int person, int set, int p, long above, long below) {
        due("chance(" + person + ", " + set + ", " + p + ", 0)", x.chance(person, set, p, 0), above);
        due("chance(" + person + ", " + set + ", " + p + ", 1)", x.chance(person, set, p, 1), below);
    }

    private static void chance() {
        promise = "18";
        LanternBridge x = walkers(1, 5, 5, 8);
        chanceDue(x, 3, 8, 0, 8, 1);
        chanceDue(x, 3, 8, 10, 7, 1);
        chanceDue(x, 3, 8, 5, 15, 2);
        chanceDue(x, 3, 8, 3, 77, 10);
        chanceDue(x, 3, 9, 4, 38, 5);
        chanceDue(x, 1, 6, 7, 5, 1);
        chanceDue(x, 0, 1, 7, 1, 1);
        chanceDue(x, 3, 15, 1, 79, 10);
        long no = Long.MIN_VALUE;
        due("NO", LanternBridge.NO, no);
        due("chance(4, 8, 1, 0)", x.chance(4, 8, 1, 0), no);
        due("chance(-1, 8, 1, 0)", x.chance(-1, 8, 1, 0), no);
        due("chance(2, 8, 1, 0): not in it", x.chance(2, 8, 1, 0), no);
        due("chance(3, 24, 1, 0)", x.chance(3, 24, 1, 0), no);
        due("chance(3, -1, 1, 0)", x.chance(3, -1, 1, 0), no);
        due("chance(3, 8, 11, 0)", x.chance(3, 8, 11, 0), no);
        due("chance(3, 8, -1, 0)", x.chance(3, 8, -1, 0), no);
        due("chance(3, 8, 1, 2)", x.chance(3, 8, 1, 2), no);
        due("chance(3, 8, 1, -1)", x.chance(3, 8, 1, -1), no);
        night(x, "slow 9 b=1;slow 2 b=0");
        chanceDue(x, 3, 8, 10, 9, 1);
    }

    private static void book() {
        promise = "19";
        LanternBridge x = walkers(1, 2);
        due("book(0)", x.book(0), BAD);
        due("book(4)", x.book(4), BAD);
        due("book(-2)", x.book(-2), BAD);
        for (int i = 1; i <= 12; i++) due("book(3)", x.book(3), i);
        due("book(3), a 13th", x.book(3), FULL);
        due("book(4), a 13th", x.book(4), BAD);
        due("count(3)", x.count(3), 12);
        due("book(-1)", x.book(-1), 0);
        due("count(3)", x.count(3), 0);
        due("book(1)", x.book(1), 1);
    }

    private static void looked() {
        promise = "20";
        LanternBridge x = walkers(1, 2, 5);
        x.book(3);
        x.book(1);
        x.book(5);
        due("looked(0)", x.looked(0), NO_WAY);
        due("looked(1)", x.looked(1), 8);
        x.book(4);
        x.book(2);
        due("looked(0): 2 is on the far bank", x.looked(0), 4);
        due("looked(1)", x.looked(1), 13);
        due("looked(2)", x.looked(2), NONE);
        due("looked(-1)", x.looked(-1), NONE);
        due("told(4): it changes nothing", x.told(4), 0);
        night(x, "oil 1");
        due("looked(0): no end of oil", x.looked(0), 4);
        night(x, "bar p=0&b=1");
        due("looked(0): barred back", x.looked(0), 1);
        due("looked(1)", x.looked(1), 2);
        night(x, "bears 1");
        due("looked(0): bears one", x.looked(0), 0);
        due("looked(1)", x.looked(1), 0);
        night(x, "bears 2");
        x.go(3);
        due("looked(0): from how all is", x.looked(0), 2);
        due("looked(1)", x.looked(1), 2 + 1);
    }

    /** An act of the last of two, of number 1 and v 4, and the bodies that ran. */
    private static void actDue(int kind, int act, int x, int want, int... bodies) {
        LanternBridge b = new LanternBridge();
        b.person(0, 0, 1, 0);
        b.person(kind, 4, 1, 0);
        String call = "KIND " + kind + ": act(1, " + act + ", " + x + ")";
        due(call, b.act(1, act, x), want);
        due(call + ", count(5)", b.count(5), bodies.length);
        for (int i = 0; i < bodies.length; i++) due(call + ", trace(" + i + ")", b.trace(i), bodies[i]);
        due(call + ", trace(" + bodies.length + ")", b.trace(bodies.length), NONE);
    }

    private static void act() {
        promise = "21, 22";
        actDue(0, 0, 10, 11, 1);
        actDue(0, 1, 10, 7, 2, 1);
        actDue(0, 2, 10, 14, 3, 2, 1);
        actDue(1, 0, 10, 31, 11, 1);
        actDue(1, 1, 10, 27, 2, 11, 1);
        actDue(1, 2, 10, 54, 3, 2, 11, 1);
        actDue(2, 0, 10, 11, 1);
        actDue(2, 1, 10, -7, 21, 2, 1);
        actDue(2, 2, 10, -14, 3, 21, 2, 1);
        actDue(3, 0, 10, 11, 1);
        actDue(3, 1, 10, 7, 2, 1);
        actDue(3, 2, 10, 14 ^ 7, 31, 3, 2, 1);
        actDue(4, 0, 10, 31, 11, 1);
        actDue(4, 1, 10, 27, 2, 11, 1);
        actDue(4, 2, 10, 48 + 7, 41, 3, 2, 11, 1, 11, 1);
        actDue(5, 0, 10, 10, 51, 1);
        actDue(5, 1, 10, -6, 21, 2, 51, 1);
        actDue(5, 2, 10, -12, 3, 21, 2, 51, 1);
        actDue(6, 0, 10, 11, 1);
        actDue(6, 1, 10, 11, 61, 2, 1);
        actDue(6, 2, 10, 22 ^ 7, 31, 3, 61, 2, 1);
        actDue(0, 0, Integer.MAX_VALUE, Integer.MIN_VALUE, 1);
        actDue(1, 0, Integer.MAX_VALUE, Integer.MAX_VALUE * 3 + 1, 11, 1);
    }

    private static void trace() {
        promise = "21, 22";
        LanternBridge x = walkers(1, 2);
        x.act(1, 2, 5);
        due("trace(0)", x.trace(0), 3);
        due("trace(-1)", x.trace(-1), NONE);
        due("trace(3)", x.trace(3), NONE);
        due("act(1, 3, 5)", x.act(1, 3, 5), 0);
        due("trace(0): no trace", x.trace(0), NONE);
        due("count(5)", x.count(5), 0);
        x.act(1, 0, 5);
        due("act(2, 0, 5)", x.act(2, 0, 5), 0);
        due("count(5)", x.count(5), 0);
        x.act(1, 0, 5);
        due("act(1, -1, 5)", x.act(1, -1, 5), 0);
        due("trace(0)", x.trace(0), NONE);
        x.act(0, 1, 5);
        due("trace(0): the latest alone", x.trace(0), 2);
        due("count(5)", x.count(5), 2);
    }

    private static void as() {
        promise = "23";
        int[] above = {-1, 0, 0, 0, 1, 2, 3};
        LanternBridge x = new LanternBridge();
        for (int kind = 0; kind < 6; kind++) x.person(kind, kind + 1, 1, 0);
        LanternBridge y = new LanternBridge();
        y.person(6, 7, 1, 0);
        for (int kind = 0; kind < 7; kind++) {
            for (int k = 0; k < 7; k++) {
                boolean is = k == kind || k == above[kind] || k == 0;
                int got = kind < 6 ? x.as(kind, k) : y.as(0, k);
                due("KIND " + kind + " as " + k, got, is ? kind + 1 : -6);
            }
        }
        due("as(0, 7)", x.as(0, 7), NONE);
        due("as(0, -1)", x.as(0, -1), NONE);
        due("as(6, 0)", x.as(6, 0), NONE);
        due("as(-1, 0)", x.as(-1, 0), NONE);
    }

    private static void image() {
        promise = "24";
        LanternBridge x = walkers(1, 2);
        due("image()", x.image(), 2);
        x.person(0, 0, 3, 0);
        due("image(), a newer one", x.image(), 3);
        x.person(0, 0, 4, 0);
        due("undo()", x.undo(), 3);
        due("image() of nobody", new LanternBridge().image(), 0);
    }

    private static void undo() {
        promise = "25";
        LanternBridge x = walkers(1, 2);
        due("undo()", x.undo(), STATE);
        night(x, "bears 1;slow 3 p=1");
        x.go(1);
        x.seen(3, 5);
        x.book(1);
        x.feed('o');
        x.image();
        x.act(1, 1, 0);
        x.go(1);
        x.person(4, 1, 1, 1);
        x.seen(1, 4);
        x.book(-1);
        x.book(2);
        x.book(2);
        due("a night of one letter more", night(x, "il 9"), 1);
        due("another one on the same tape", night(x, "heavy 8;oil 9"), 2);
        x.act(0, 0, 7);
        due("going(2, 0, 1)", x.going(2, 0, 1), 2);
        for (int round = 0; round < 2; round++) {
            due("undo()", x.undo(), 2);
            due("count(0)", x.count(0), 2);
            due("count(1)", x.count(1), 1);
            due("count(2)", x.count(2), 1);
            due("count(3)", x.count(3), 1);
            due("count(4)", x.count(4), 1);
            due("count(5): the trace stays", x.count(5), 1);
            due("trace(0): the trace stays", x.trace(0), 1);
            due("told(0)", x.told(0), 1);
            due("told(2)", x.told(2), 0);
            due("told(3)", x.told(3), 1);
            due("told(4)", x.told(4), 1);
            due("told(5)", x.told(5), 1);
            due("told(6)", x.told(6), 1);
            due("going(2, 0, 1)", x.going(2, 0, 1), 5);
            due("span(0, 1)", x.span(0, 1), 5);
            due("looked(1)", x.looked(1), 1);
            due("person(..)", x.person(0, 0, 9, 9), 2);
            due("of(2, 2)", x.of(2, 2), 9);
            due("the tape goes on", night(x, "il 8"), 1);
            due("told(2)", x.told(2), 8);
            due("another one on the same tape", night(x, "bears 3"), 2);
            x.go(1);
        }
    }

    private static void count() {
        promise = "26";
        LanternBridge x = walkers(1, 2, 3);
        night(x, "oil 1");
        night(x, "oil 2");
        x.seen(1, 1);
        x.book(1);
        x.book(1);
        x.book(1);
        x.book(1);
        for (int i = 0; i < 5; i++) x.feed('x');
        x.act(0, 1, 1);
        int[] want = {3, 2, 1, 4, 5, 2};
        for (int what = 0; what < 6; what++) due("count(" + what + ")", x.count(what), want[what]);
        due("count(6)", x.count(6), NONE);
        due("count(-1)", x.count(-1), NONE);
    }
}
