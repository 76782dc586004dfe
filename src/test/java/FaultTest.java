import java.util.Random;
import java.util.regex.Pattern;

/**
 * Looks at the FAULT of many texts against its own words: a beginning can go on if one of a few ends
 * makes a NIGHT of it, by a recogniser that knows whole texts alone.
 */
public final class FaultTest {
    private static final String[] CLAUSES = {"slow 1 p=1", "bar p=1", "bears 1", "heavy 1", "oil 1"};
    private static final Pattern PLAIN = Pattern.compile("(bears|heavy|oil) (0|[1-9][0-9]?)");
    private static final Pattern TESTED = Pattern.compile("(slow (0|[1-9][0-9]?)|bar) [^ ]+");
    private static final Pattern TEST = Pattern.compile("[pkwnbq][<=>](0|[1-9][0-9]?)");

    private static boolean isNight(String text) {
        String[] clauses = text.split(";", -1);
        if (clauses.length > 10) return false;
        for (String clause : clauses) {
            if (PLAIN.matcher(clause).matches()) continue;
            if (!TESTED.matcher(clause).matches()) return false;
            if (!isE(clause.substring(clause.lastIndexOf(' ') + 1), 5)) return false;
        }
        return true;
    }

    private static boolean isE(String e, int left) {
        return joins(e, '|', left) || isT(e, left);
    }

    private static boolean isT(String t, int left) {
        if (isF(t, left)) return true;
        for (int i = 0; i < t.length(); i++) {
            if (t.charAt(i) == '&' && isF(t.substring(0, i), left) && isT(t.substring(i + 1), left)) return true;
        }
        return false;
    }

    private static boolean joins(String e, char sign, int left) {
        for (int i = 0; i < e.length(); i++) {
            if (e.charAt(i) == sign && isT(e.substring(0, i), left) && isE(e.substring(i + 1), left)) return true;
        }
        return false;
    }

    private static boolean isF(String f, int left) {
        if (f.startsWith("!")) return left > 0 && isF(f.substring(1), left - 1);
        if (f.startsWith("(") && f.endsWith(")")) {
            return left > 0 && isE(f.substring(1, f.length() - 1), left - 1);
        }
        return TEST.matcher(f).matches();
    }

    private static boolean canGoOn(String beginning) {
        for (String clause : CLAUSES) {
            for (int from = 0; from <= clause.length(); from++) {
                String end = clause.substring(from);
                for (int close = 0; close <= 5; close++) {
                    if (isNight(beginning + end)) return true;
                    end += ")";
                }
            }
        }
        return false;
    }

    private static int fault(String text) {
        for (int i = 0; i < text.length(); i++) {
            if (!canGoOn(text.substring(0, i + 1))) return i;
        }
        return isNight(text) ? -1 : text.length();
    }

    private static String e(Random r, int depth) {
        int pick = r.nextInt(depth > 3 ? 2 : 7);
        if (pick < 2) return "" + "pkwnbq".charAt(r.nextInt(6)) + "<=>".charAt(r.nextInt(3)) + r.nextInt(13);
        if (pick == 2) return "!" + e(r, depth + 1);
        if (pick == 3) return "(" + e(r, depth + 1) + ")";
        if (pick == 4) return "!(" + e(r, depth + 1) + ")";
        return e(r, depth + 1) + (pick == 5 ? "&" : "|") + e(r, depth + 1);
    }

    private static String clause(Random r) {
        switch (r.nextInt(5)) {
            case 0: return "slow " + r.nextInt(100) + " " + e(r, 0);
            case 1: return "bar " + e(r, 0);
            case 2: return "bears " + r.nextInt(100);
            case 3: return "heavy " + r.nextInt(100);
            default: return "oil " + r.nextInt(100);
        }
    }

    private static String text(Random r) {
        StringBuilder b = new StringBuilder();
        int clauses = r.nextInt(8) == 0 ? 9 + r.nextInt(4) : 1 + r.nextInt(4);
        for (int i = 0; i < clauses; i++) b.append(i > 0 ? ";" : "").append(clauses > 8 ? "oil 3" : clause(r));
        String signs = "()!&|<=>;0195 pkwnbqsloxeary\u0000\u007f";
        for (int times = r.nextInt(4); times > 1 && b.length() > 0; times--) {
            char sign = signs.charAt(r.nextInt(signs.length()));
            int at = r.nextInt(b.length());
            switch (r.nextInt(4)) {
                case 0: b.insert(at, sign); break;
                case 1: b.setCharAt(at, sign); break;
                case 2: b.deleteCharAt(at); break;
                default: b.setLength(at);
            }
        }
        if (b.length() > 60) b.setLength(60);
        return b.toString();
    }

    public static void main(String[] args) {
        Random r = new Random(20261118L);
        int wrong = 0;
        int whole = 0;
        for (int i = 0; i < 1500; i++) {
            String text = text(r);
            LanternBridge x = new LanternBridge();
            for (int k = 0; k < text.length(); k++) x.feed(text.charAt(k));
            int got = x.night();
            int fault = fault(text);
            int want = fault < 0 ? 0 : -10 - fault;
            if (fault < 0) whole++;
            if (got != want) {
                wrong++;
                System.out.println("night of \"" + text + "\" answered " + got + ", due is " + want);
            }
        }
        System.out.println(whole + " nights without a fault, " + wrong + " wrong answers");
        if (wrong != 0 || whole < 100) System.exit(1);
    }
}
