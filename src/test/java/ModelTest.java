import java.util.ArrayList;
import java.util.Arrays;
import java.util.List;
import java.util.Random;

/** Long runs of calls, wrong ones among them, beside a model that was written a second time, the slow way. */
public final class ModelTest {
    private static final int NEVER = 1 << 28;

    /** kind, v, pace, weight of each; what a NIGHT says is looked up in its text each time. */
    private static final class Model {
        List<int[]> people = new ArrayList<>();
        List<String> nights = new ArrayList<>();
        List<int[]> seen = new ArrayList<>();
        List<Integer> book = new ArrayList<>();
        List<Integer> trace = new ArrayList<>();
        StringBuilder tape = new StringBuilder();
        int far, lantern, minute, made;
        Model image;

        Model copy() {
            Model m = new Model();
            m.people.addAll(people);
            m.nights.addAll(nights);
            m.seen.addAll(seen);
            m.book.addAll(book);
            m.tape.append(tape);
            m.far = far;
            m.lantern = lantern;
            m.minute = minute;
            m.made = made;
            return m;
        }

        String[] clauses() {
            return nights.isEmpty() ? new String[0] : nights.get(nights.size() - 1).split(";");
        }

        int last(String word, int without) {
            int n = without;
            for (String c : clauses()) if (c.startsWith(word + " ")) n = Integer.parseInt(c.substring(word.length() + 1));
            return n;
        }

        int all() {
            return (1 << people.size()) - 1;
        }

        boolean set(int set) {
            return set >= 0 && set <= all();
        }

        boolean in(int set, int i) {
            return i >= 0 && i < people.size() && (set & (1 << i)) != 0;
        }

        // E, from the text

        String e;
        int at;

        boolean holds(String text, int i, int set, int way) {
            e = text;
            at = 0;
            return either(i, set, way);
        }

        boolean either(int i, int set, int way) {
            boolean a = both(i, set, way);
            if (at < e.length() && e.charAt(at) == '|') {
                at++;
                boolean b = either(i, set, way);
                return a || b;
            }
            return a;
        }

        boolean both(int i, int set, int way) {
            boolean a = one(i, set, way);
            if (at < e.length() && e.charAt(at) == '&') {
                at++;
                boolean b = both(i, set, way);
                return a && b;
            }
            return a;
        }

        boolean one(int i, int set, int way) {
            char c = e.charAt(at++);
            if (c == '!') return !one(i, set, way);
            if (c == '(') {
                boolean a = either(i, set, way);
                at++;
                return a;
            }
            char sign = e.charAt(at++);
            int from = at;
            while (at < e.length() && Character.isDigit(e.charAt(at))) at++;
            int n = Integer.parseInt(e.substring(from, at));
            int least = 9;
            for (int j = 5; j >= 0; j--) if (j != i && in(set, j)) least = j;
            int value = c == 'p' ? i : c == 'k' ? people.get(i)[0] : c == 'w' ? people.get(i)[3]
                    : c == 'n' ? Integer.bitCount(set) : c == 'b' ? way : least;
            return sign == '<' ? value < n : sign == '=' ? value == n : value > n;
        }

        // GOINGS

        int takes(int i, int set, int way) {
            int[] w = people.get(i);
            int kind = w[0], v = w[1], t = w[2];
            for (String c : clauses()) {
                if (!c.startsWith("slow ")) continue;
                String[] parts = c.split(" ");
                if (holds(parts[2], i, set, way)) t += Integer.parseInt(parts[1]);
            }
            boolean others = set != 1 << i, heavier = false, led = false;
            for (int j = 0; j < people.size(); j++) {
                if (j == i || !in(set, j)) continue;
                if (people.get(j)[3] > w[3]) heavier = true;
                if (people.get(j)[0] == 4) led = true;
            }
            if ((kind == 1 || kind == 4) && !others) t -= v;
            if ((kind == 2 || kind == 5) && !heavier) t += v;
            if (kind == 5 && others) t = t / 2 + t % 2;
            if ((kind == 3 || kind == 6) && !in(set, i - 1) && !in(set, i + 1)) t += v;
            if (kind == 6 && way == 1) t += v;
            if (led) t--;
            return t < 1 ? 1 : t;
        }

        int[][] minutesKnown;
        int[][] canKnown;

        void changed() {
            minutesKnown = new int[2][64];
            canKnown = new int[2][64];
        }

        int minutes(int set, int way) {
            if (minutesKnown[way][set] == 0) {
                for (int i = 0; i < people.size(); i++) {
                    if (in(set, i)) minutesKnown[way][set] = Math.max(minutesKnown[way][set], takes(i, set, way));
                }
            }
            return minutesKnown[way][set];
        }

        boolean can(int set, int way) {
            if (canKnown[way][set] == 0) canKnown[way][set] = reckonCan(set, way) ? 1 : 2;
            return canKnown[way][set] == 1;
        }

        boolean reckonCan(int set, int way) {
            int weight = 0;
            for (int i = 0; i < people.size(); i++) {
                if (!in(set, i)) continue;
                weight += people.get(i)[3];
                for (String c : clauses()) {
                    if (c.startsWith("bar ") && holds(c.substring(4), i, set, way)) return false;
                }
            }
            return weight <= last("heavy", 99) && Integer.bitCount(set) <= last("bears", 2);
        }

        boolean isGoing(int set, int far, int lantern) {
            int bank = lantern == 0 ? all() & ~far : far;
            return (set & bank) == set && can(set, lantern);
        }

        /** From one place on: what it takes to come to each; GOINGS of nobody who stays. */
        int[][] reach(int far, int lantern, int stays, boolean counting) {
            int[][] d = new int[2][64];
            Arrays.fill(d[0], NEVER);
            Arrays.fill(d[1], NEVER);
            d[lantern][far] = 0;
            boolean more = true;
            while (more) {
                more = false;
                for (int l = 0; l < 2; l++) {
                    for (int f = 0; f <= all(); f++) {
                        if (d[l][f] == NEVER) continue;
                        for (int s = 1; s <= all(); s++) {
                            if ((s & stays) != 0 || !isGoing(s, f, l)) continue;
                            int sum = d[l][f] + (counting ? 1 : minutes(s, l));
                            if (sum < d[1 - l][f ^ s]) {
                                d[1 - l][f ^ s] = sum;
                                more = true;
                            }
                        }
                    }
                }
            }
            return d;
        }

        int least(int set, int far, int lantern, int stays, boolean counting) {
            int[][] d = reach(far, lantern, stays, counting);
            int best = NEVER;
            for (int f = 0; f <= all(); f++) {
                if ((f & set) == set) best = Math.min(best, Math.min(d[0][f], d[1][f]));
            }
            return best == NEVER ? -5 : best;
        }

        int first(int set) {
            int least = least(set, far, lantern, 0, false);
            if (least <= 0) return -5;
            for (int s = 1; s <= all(); s++) {
                if (!isGoing(s, far, lantern)) continue;
                int rest = least(set, far ^ s, 1 - lantern, 0, false);
                if (rest >= 0 && rest + minutes(s, lantern) == least) return s;
            }
            return -5;
        }

        int by(int m, int what) {
            if (what != 0 && what != 1) return -1;
            if (m < 0 || m > 999) return -2;
            int[][] d = reach(far, lantern, 0, false);
            int who = -1;
            for (int f = all(); f >= 0; f--) {
                if (Math.min(d[0][f], d[1][f]) > m) continue;
                if (who < 0 || Integer.bitCount(f) >= Integer.bitCount(who)) who = f;
            }
            return what == 0 ? Integer.bitCount(who) : who;
        }

        int quicker(int i) {
            if (i < 0 || i >= people.size()) return -1;
            int[] w = people.get(i);
            if (w[2] == 1) return 0;
            int before = least(all(), far, lantern, 0, false);
            if (before < 0) return -5;
            people.set(i, new int[] {w[0], w[1], w[2] - 1, w[3]});
            changed();
            int after = least(all(), far, lantern, 0, false);
            people.set(i, w);
            changed();
            return before - after;
        }

        int leave() {
            int best = NEVER, who = -5;
            for (int i = people.size() - 1; i >= 0; i--) {
                int m = least(all() & ~(1 << i), far, lantern, 1 << i, false);
                if (m >= 0 && m <= best) {
                    best = m;
                    who = i;
                }
            }
            return who;
        }

        // RULES

        List<Integer> ordered(int some) {
            List<Integer> row = new ArrayList<>();
            for (int i = 0; i < people.size(); i++) if (in(some, i)) row.add(i);
            row.sort((a, b) -> people.get(a)[2] != people.get(b)[2] ? people.get(a)[2] - people.get(b)[2] : a - b);
            return row;
        }

        int over(int rule, int near) {
            List<Integer> row = ordered(near);
            int n = row.size();
            if (n == 1) return near;
            if (rule == 2) {
                row.sort(null);
                return 1 << row.get(0) | 1 << row.get(1);
            }
            if (rule == 1 && n >= 3) {
                List<Integer> every = ordered(all());
                boolean a = row.contains(every.get(0)), b = row.contains(every.get(1));
                if (n >= 4 && a && b) return 1 << row.get(0) | 1 << row.get(1);
                if (a != b) return 1 << row.get(n - 1) | 1 << row.get(n - 2);
            }
            return 1 << row.get(0) | 1 << row.get(n - 1);
        }

        int[] byRule(int rule) {
            if (rule == 3) {
                int[] best = null;
                for (int r = 0; r < 3; r++) {
                    int[] got = byRule(r);
                    if (got != null && (best == null || got[0] < best[0])) best = got;
                }
                return best;
            }
            int f = far, l = lantern, sum = 0, n = 0;
            while (f != all()) {
                int s = l == 0 ? over(rule, all() & ~f) : 1 << ordered(f).get(0);
                if (!can(s, l)) return null;
                sum += minutes(s, l);
                f ^= s;
                l = 1 - l;
                if (++n > 40) return null;
            }
            return new int[] {sum, n};
        }

        int rule(int rule, int what) {
            if (rule < 0 || rule > 3 || what < 0 || what > 2) return -1;
            int[] got = byRule(rule);
            if (got == null) return -5;
            return what < 2 ? got[what] : got[0] - least(all(), far, lantern, 0, false);
        }

        // SEEN, CHANCES, BOOKS

        /** Whether that one's own may be t: the others can then as well be as slow as all rows let them. */
        boolean mayBe(int one, int t) {
            int[] own = new int[people.size()];
            Arrays.fill(own, 99);
            for (int[] row : seen) {
                for (int i = 0; i < own.length; i++) if (in(row[0], i)) own[i] = Math.min(own[i], row[1]);
            }
            own[one] = t;
            for (int[] row : seen) {
                int most = 0;
                for (int i = 0; i < own.length; i++) if (in(row[0], i)) most = Math.max(most, own[i]);
                if (most != row[1]) return false;
            }
            return true;
        }

        int span(int one, int what) {
            if (one < 0 || one >= people.size() || what < 0 || what > 1) return -1;
            int least = 0, greatest = 0;
            for (int t = 1; t <= 99; t++) {
                if (!mayBe(one, t)) continue;
                if (least == 0) least = t;
                greatest = t;
            }
            return what == 0 ? least : greatest;
        }

        long chance(int one, int set, int p, int part) {
            if (one < 0 || one >= people.size() || !set(set) || !in(set, one)) return Long.MIN_VALUE;
            if (p < 0 || p > 10 || part < 0 || part > 1) return Long.MIN_VALUE;
            int slow = 0, quick = 0;
            for (int i = 0; i < people.size(); i++) {
                if (!in(set, i)) continue;
                int t = takes(i, set, 0);
                slow = Math.max(slow, t);
                quick = Math.max(quick, i == one && t > 1 ? t - 1 : t);
            }
            long above = (long) p * quick + (10L - p) * slow;
            long a = above, b = 10;
            while (b != 0) {
                long c = a % b;
                a = b;
                b = c;
            }
            return part == 0 ? above / a : 10 / a;
        }

        int looked(int what) {
            if (what < 0 || what > 1) return -1;
            int f = far, l = lantern, sum = 0;
            for (int i = 0; i < book.size(); i++) {
                if (!isGoing(book.get(i), f, l)) return what == 0 ? i : sum;
                sum += minutes(book.get(i), l);
                f ^= book.get(i);
                l = 1 - l;
            }
            return what == 0 ? -5 : sum;
        }

        // ACTS: by tables of which KIND has which body

        static final int[] ABOVE = {-1, 0, 0, 0, 1, 2, 3};
        static final int[][] BODIES = {{1, 2, 3}, {11, 0, 0}, {0, 21, 0}, {0, 0, 31}, {0, 0, 41}, {51, 0, 0}, {0, 61, 0}};

        int run(int from, int act, int i, int x) {
            int kind = from;
            while (BODIES[kind][act] == 0) kind = ABOVE[kind];
            int body = BODIES[kind][act], v = people.get(i)[1], own = people.get(i)[0], up = ABOVE[kind];
            trace.add(body);
            switch (body) {
                case 1: return x + i;
                case 2: return run(own, 0, i, x) - v;
                case 3: return run(own, 1, i, x) * 2;
                case 11: return run(up, 0, i, x * 3);
                case 21: return -run(up, 1, i, x);
                case 31: return run(up, 2, i, x) ^ 7;
                case 41: return run(up, 2, i, x - 1) + run(own, 0, i, 2);
                case 51: return run(up, 0, i, x) ^ i;
                default: return run(up, 1, i, x) + v;
            }
        }
    }

    // what is asked

    private static int wrong = 0;
    private static final List<String> CALLS = new ArrayList<>();
    private static LanternBridge x;
    private static Model m;
    private static Random r;

    private static void due(String call, long got, long want) {
        CALLS.add(call + " = " + want);
        if (got == want) return;
        wrong++;
        if (wrong > 5) return;
        System.out.println(call + " answered " + got + ", due is " + want + "; ahead of it:");
        for (int i = Math.max(0, CALLS.size() - 40); i < CALLS.size() - 1; i++) System.out.println("    " + CALLS.get(i));
    }

    private static int odd(int low, int high) {
        int[] wild = {Integer.MIN_VALUE, Integer.MAX_VALUE, -1, -2, 64, 1 << 30, 1000, high + 1, low - 1};
        return r.nextInt(25) == 0 ? wild[r.nextInt(wild.length)] : low + r.nextInt(high - low + 1);
    }

    private static int set() {
        return odd(0, m.all());
    }

    private static int who() {
        return odd(0, Math.max(0, m.people.size() - 1));
    }

    private static String e(int depth) {
        int pick = r.nextInt(depth > 2 ? 2 : 7);
        if (pick < 2) {
            String numbers = "0123456789";
            return "" + "pkwnbq".charAt(r.nextInt(6)) + "<=>".charAt(r.nextInt(3)) + numbers.charAt(r.nextInt(r.nextBoolean() ? 3 : 10));
        }
        if (pick == 2) return "!" + e(depth + 1);
        if (pick == 3) return "(" + e(depth + 1) + ")";
        if (pick == 4) return "!(" + e(depth + 2) + ")";
        return e(depth + 1) + (pick == 5 ? "&" : "|") + e(depth + 1);
    }

    private static String nightText() {
        StringBuilder b = new StringBuilder();
        int clauses = 1 + r.nextInt(5);
        for (int i = 0; i < clauses; i++) {
            if (i > 0) b.append(';');
            switch (r.nextInt(6)) {
                case 0:
                case 1: b.append("slow ").append(r.nextInt(12)).append(' ').append(e(0)); break;
                case 2: b.append("bar n>1&").append(e(1)); break;
                case 3: b.append("bears ").append(r.nextInt(5)); break;
                case 4: b.append("heavy ").append(5 + r.nextInt(30)); break;
                default: b.append("oil ").append(r.nextInt(100));
            }
        }
        return b.length() <= 100 ? b.toString() : "bears 3;slow 2 b=1";
    }

    private static void feedAndNight() {
        String text = r.nextInt(6) == 0 ? "x" : nightText();
        boolean odd = m.tape.length() > 0;
        for (int i = 0; i < text.length(); i++) {
            int want = m.tape.length() >= 100 ? -4 : m.tape.length() + 1;
            due("feed", x.feed(text.charAt(i)), want);
            if (want > 0) m.tape.append(text.charAt(i));
        }
        if (m.nights.size() == 5) {
            due("night " + text, x.night(), -4);
            return;
        }
        boolean faulty = odd || text.equals("x");
        due("night " + m.tape, x.night(), faulty ? -10 : m.nights.size());
        m.tape.setLength(0);
        if (!faulty) m.nights.add(text);
        m.changed();
    }

    private static void people() {
        int kind = odd(0, 6), v = odd(0, 9), pace = odd(1, r.nextBoolean() ? 30 : 6), weight = odd(0, 9);
        int want = kind < 0 || kind > 6 ? -1
                : v < 0 || v > 9 || pace < 1 || pace > 30 || weight < 0 || weight > 9 ? -2
                : m.people.size() == 6 ? -4 : m.people.size();
        due("person(" + kind + ", " + v + ", " + pace + ", " + weight + ")", x.person(kind, v, pace, weight), want);
        if (want >= 0) m.people.add(new int[] {kind, v, pace, weight});
        m.changed();
    }

    private static void go(int set) {
        int want;
        if (!m.set(set) || set == 0) want = -2;
        else if (!m.isGoing(set, m.far, m.lantern)) want = -3;
        else {
            want = m.minutes(set, m.lantern);
            int oil = m.last("oil", 0);
            if (oil > 0 && m.minute + want > oil) want = -3;
        }
        due("go(" + set + ")", x.go(set), want);
        if (want < 0) return;
        m.minute += want;
        m.made++;
        m.far ^= set;
        m.lantern = 1 - m.lantern;
    }

    private static void asked() {
        int set = set(), who = who(), what = odd(0, 2), way = odd(0, 1);
        boolean is = m.set(set), some = is && set != 0;
        switch (r.nextInt(12)) {
            case 0:
                int want = way < 0 || way > 1 || what < 0 || what > 1 ? -1 : !some ? -2
                        : what == 1 ? m.minutes(set, way) : m.can(set, way) ? 1 : 0;
                due("going(" + set + ", " + way + ", " + what + ")", x.going(set, way, what), want);
                break;
            case 1: due("least(" + set + ")", x.least(set), is ? m.least(set, m.far, m.lantern, 0, false) : -2); break;
            case 2: due("fewest(" + set + ")", x.fewest(set), is ? m.least(set, m.far, m.lantern, 0, true) : -2); break;
            case 3: due("first(" + set + ")", x.first(set), is ? m.first(set) : -2); break;
            case 4: {
                int limit = odd(0, r.nextBoolean() ? 40 : 999);
                due("by(" + limit + ", " + what + ")", x.by(limit, what), m.by(limit, what));
                break;
            }
            case 5: due("quicker(" + who + ")", x.quicker(who), m.quicker(who)); break;
            case 6: due("leave()", x.leave(), m.leave()); break;
            case 7: {
                int rule = odd(0, 3);
                due("rule(" + rule + ", " + what + ")", x.rule(rule, what), m.rule(rule, what));
                break;
            }
            case 8: due("span(" + who + ", " + what + ")", x.span(who, what), m.span(who, what)); break;
            case 9: {
                int p = odd(0, 10), chosen = r.nextInt(3) > 0 && who >= 0 && who < m.people.size() ? set | 1 << who : set;
                String call = "chance(" + who + ", " + chosen + ", " + p + ", " + what + ")";
                due(call, x.chance(who, chosen, p, what), m.chance(who, chosen, p, what));
                break;
            }
            case 10: due("looked(" + what + ")", x.looked(what), m.looked(what)); break;
            default: facts(who);
        }
    }

    private static void facts(int who) {
        int what = odd(0, 6);
        boolean there = who >= 0 && who < m.people.size();
        int[] told = {m.last("bears", 2), m.last("heavy", 99), m.last("oil", 0), m.minute, m.made, m.lantern, m.far};
        due("told(" + what + ")", x.told(what), what < 0 || what > 6 ? -1 : told[what]);
        int[] counts = {m.people.size(), m.nights.size(), m.seen.size(), m.book.size(), m.tape.length(), m.trace.size()};
        due("count(" + what + ")", x.count(what), what < 0 || what > 5 ? -1 : counts[what]);
        due("of(" + who + ", " + what + ")", x.of(who, what), !there || what < 0 || what > 4 ? -1
                : what < 4 ? m.people.get(who)[what] : m.in(m.far, who) ? 1 : 0);
        int kind = there ? m.people.get(who)[0] : -1;
        boolean under = kind == what || what == 0 || kind > 3 && Model.ABOVE[kind] == what;
        due("as(" + who + ", " + what + ")", x.as(who, what), !there || what < 0 || what > 6 ? -1
                : under ? m.people.get(who)[1] : -6);
        due("trace(" + what + ")", x.trace(what), what < 0 || what >= m.trace.size() ? -1 : m.trace.get(what));
    }

    private static void rows() {
        int set = r.nextInt(40) == 0 ? -1 : set();
        boolean some = m.set(set) && set != 0;
        if (r.nextBoolean()) {
            int minutes = odd(1, r.nextBoolean() ? 6 : 99);
            int want = set == -1 ? 0 : !some || minutes < 1 || minutes > 99 ? -2 : m.seen.size() == 12 ? -4 : m.seen.size() + 1;
            due("seen(" + set + ", " + minutes + ")", x.seen(set, minutes), want);
            if (set == -1) m.seen.clear();
            else if (want > 0) m.seen.add(new int[] {set, minutes});
        } else {
            int want = set == -1 ? 0 : !some ? -2 : m.book.size() == 12 ? -4 : m.book.size() + 1;
            due("book(" + set + ")", x.book(set), want);
            if (set == -1) m.book.clear();
            else if (want > 0) m.book.add(set);
        }
    }

    private static void act() {
        int who = who(), act = odd(0, 2), n = r.nextInt();
        m.trace.clear();
        boolean is = who >= 0 && who < m.people.size() && act >= 0 && act <= 2;
        int want = is ? m.run(m.people.get(who)[0], act, who, n) : 0;
        due("act(" + who + ", " + act + ", " + n + ")", x.act(who, act, n), want);
    }

    private static void imageOrUndo() {
        if (r.nextInt(3) == 0) {
            due("image()", x.image(), m.people.size());
            m.image = m.copy();
            return;
        }
        due("undo()", x.undo(), m.image == null ? -3 : m.image.people.size());
        if (m.image == null) return;
        Model again = m.image.copy();
        again.image = m.image;
        again.trace = m.trace;
        m = again;
        m.changed();
    }

    private static void step() {
        int pick = r.nextInt(30);
        if (pick < 2) people();
        else if (pick == 2) feedAndNight();
        else if (pick < 8) {
            int first = r.nextBoolean() ? m.first(m.all()) : -5;
            go(first > 0 ? first : set());
        } else if (pick < 12) rows();
        else if (pick == 12) act();
        else if (pick == 13) imageOrUndo();
        else asked();
    }

    public static void main(String[] args) {
        for (int run = 0; run < 150; run++) {
            r = new Random(7000L + run);
            x = new LanternBridge();
            m = new Model();
            m.changed();
            CALLS.clear();
            int most = 1 + r.nextInt(6);
            for (int i = 0; i < most; i++) people();
            if (r.nextInt(3) > 0) feedAndNight();
            while (CALLS.size() < 500) step();
        }
        System.out.println(wrong == 0 ? "all answers are as the model's" : wrong + " answers are not as the model's");
        if (wrong != 0) System.exit(1);
    }
}
