import java.lang.reflect.Method;
import java.lang.reflect.Modifier;
import java.util.TreeMap;
import java.util.TreeSet;
import java.util.function.Supplier;
import java.util.function.ToLongFunction;

/**
 * What the tests of boundary cases share. Each of those is a static method of its own, whose name begins with p
 * and the two digits of its promise; the names are looked up, so that none is forgotten.
 */
final class Cases {
    static final int NONE = -1, BAD = -2, STATE = -3, FULL = -4, NO_WAY = -5, OTHER_KIND = -6;
    static final int MIN = Integer.MIN_VALUE, MAX = Integer.MAX_VALUE;
    static final long NO = Long.MIN_VALUE;

    private static int wrong = 0;
    private static String test = "";
    private static String words = "";

    private Cases() {
    }

    /** The sentence of the document that a test looks at. */
    static void says(String sentence) {
        words = sentence;
    }

    static void due(String call, long got, long want) {
        if (got == want) return;
        wrong++;
        System.out.println("promise " + Integer.parseInt(test.substring(1, 3)) + ", " + test + " (\"" + words + "\"): "
                + call + " answered " + got + ", due is " + want);
    }

    /** Runs the tests of a class, which has one at least for each promise from first to last. */
    static void runAll(Class<?> tests, int first, int last) {
        int found = failures(tests, first, last);
        System.out.println(found == 0 ? "all answers are as due" : found + " answers are not as due");
        if (found != 0) System.exit(1);
    }

    static int failures(Class<?> tests, int first, int last) {
        wrong = 0;
        TreeMap<String, Method> methods = new TreeMap<>();
        TreeSet<Integer> promises = new TreeSet<>();
        for (Method m : tests.getDeclaredMethods()) {
            if (!m.getName().matches("p\\d\\d_\\w+") || !Modifier.isStatic(m.getModifiers())) continue;
            methods.put(m.getName(), m);
            promises.add(Integer.parseInt(m.getName().substring(1, 3)));
        }
        for (Method m : methods.values()) run(m);
        for (int p = first; p <= last; p++) {
            if (promises.contains(p)) continue;
            wrong++;
            System.out.println("promise " + p + " has no test in " + tests.getName());
        }
        System.out.println(methods.size() + " boundary cases of the promises " + first + " to " + last);
        return wrong;
    }

    private static void run(Method m) {
        test = m.getName();
        words = "";
        try {
            m.setAccessible(true);
            m.invoke(null);
        } catch (ReflectiveOperationException e) {
            wrong++;
            System.out.println(test + " (\"" + words + "\") ended with " + e.getCause());
        }
    }

    // objects

    static LanternBridge feed(LanternBridge x, String text) {
        for (int i = 0; i < text.length(); i++) x.feed(text.charAt(i));
        return x;
    }

    static int night(LanternBridge x, String text) {
        return feed(x, text).night();
    }

    static void nightDue(String text, int want) {
        due("night() of \"" + text + "\"", night(new LanternBridge(), text), want);
    }

    /** WALKERS of WEIGHT 5 and these paces. */
    static LanternBridge walkers(int... paces) {
        LanternBridge x = new LanternBridge();
        for (int pace : paces) x.person(0, 0, pace, 5);
        return x;
    }

    /** WALKERS of these paces in a NIGHT. */
    static LanternBridge walkersIn(String text, int... paces) {
        LanternBridge x = walkers(paces);
        due("night() of \"" + text + "\"", night(x, text), 0);
        return x;
    }

    /** One who has something of all that there is: so a call that changes too much shows. */
    static LanternBridge busy() {
        LanternBridge x = new LanternBridge();
        x.person(0, 0, 3, 5);
        x.person(4, 2, 4, 6);
        x.person(6, 1, 5, 2);
        night(x, "slow 2 p=1&b=1;bar p=2&n=1;heavy 12;oil 60");
        x.seen(3, 5);
        x.seen(4, 6);
        x.book(1);
        x.book(6);
        x.go(3);
        feed(x, "oil");
        x.image();
        x.go(1);
        x.seen(2, 4);
        x.book(2);
        feed(x, " 4");
        x.act(1, 2, 9);
        return x;
    }

    static LanternBridge busyWithSixPeople() {
        LanternBridge x = busy();
        for (int i = 3; i < 6; i++) x.person(i, 1, i, i);
        return x;
    }

    static LanternBridge busyWithFullTape() {
        LanternBridge x = busy();
        for (int i = x.count(4); i < 100; i++) x.feed(';');
        return x;
    }

    static LanternBridge busyWithFiveNights() {
        LanternBridge x = busy();
        x.night();
        while (x.count(1) < 5) night(x, "oil 50;slow 1 b=0");
        return feed(x, "oil 4");
    }

    static LanternBridge busyWithTwelveRows() {
        LanternBridge x = busy();
        while (x.count(2) < 12) x.seen(3, 5);
        while (x.count(3) < 12) x.book(4);
        return x;
    }

    // what a call changes

    /** The call answers as due, and an object on which it was made is then like one on which it was not. */
    static void refused(String call, Supplier<LanternBridge> made, ToLongFunction<LanternBridge> asked, long want) {
        LanternBridge x = made.get();
        due(call, asked.applyAsLong(x), want);
        sameAs(call, x, made.get());
    }

    static void changesNothing(String call, Supplier<LanternBridge> made, ToLongFunction<LanternBridge> asked) {
        LanternBridge x = made.get();
        asked.applyAsLong(x);
        sameAs(call, x, made.get());
    }

    /** Looks at all of both; the last calls change them. */
    static void sameAs(String call, LanternBridge x, LanternBridge y) {
        sameNow(call, x, y);
        due(call + ", then feed('7')", x.feed('7'), y.feed('7'));
        due(call + ", then night()", x.night(), y.night());
        due(call + ", then told(2)", x.told(2), y.told(2));
        due(call + ", then undo()", x.undo(), y.undo());
        sameNow(call + ", then undo()", x, y);
        due(call + ", then undo() and night()", night(x, " 8"), night(y, " 8"));
        due(call + ", then undo() and told(2)", x.told(2), y.told(2));
    }

    private static void sameNow(String call, LanternBridge x, LanternBridge y) {
        for (int i = 0; i < 7; i++) due(call + ", then told(" + i + ")", x.told(i), y.told(i));
        for (int i = 0; i < 6; i++) due(call + ", then count(" + i + ")", x.count(i), y.count(i));
        for (int i = 0; i < 8; i++) due(call + ", then trace(" + i + ")", x.trace(i), y.trace(i));
        int all = (1 << y.count(0)) - 1;
        for (int i = 0; i < 6; i++) {
            for (int what = 0; what < 5; what++) due(call + ", then of(" + i + ", " + what + ")", x.of(i, what), y.of(i, what));
            for (int what = 0; what < 2; what++) due(call + ", then span(" + i + ", " + what + ")", x.span(i, what), y.span(i, what));
            due(call + ", then going(" + (1 << i) + ", 1, 1)", x.going(1 << i, 1, 1), y.going(1 << i, 1, 1));
        }
        for (int what = 0; what < 2; what++) due(call + ", then looked(" + what + ")", x.looked(what), y.looked(what));
        due(call + ", then going(all, 0, 1)", x.going(all, 0, 1), y.going(all, 0, 1));
        due(call + ", then going(2, 1, 0)", x.going(2, 1, 0), y.going(2, 1, 0));
        due(call + ", then least(all)", x.least(all), y.least(all));
        due(call + ", then first(all)", x.first(all), y.first(all));
        due(call + ", then by(9, 1)", x.by(9, 1), y.by(9, 1));
    }
}
