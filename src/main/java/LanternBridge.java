/** One lantern for the bridge: DOC.md says, as numbered promises, what each call answers. */
public final class LanternBridge {
    public static final int NONE = -1, BAD = -2, STATE = -3, FULL = -4;
    public static final long NO = Long.MIN_VALUE;

    private static final int NO_WAY = -5, OTHER_KIND = -6, FAULT_AT_START = -10;
    private static final int MOST_PEOPLE = 6, MOST_SETS = 64, MOST_SIGNS = 100, MOST_NIGHTS = 5;
    private static final int MOST_ROWS = 12, MOST_TRACED = 20, MOST_MINUTES = 99;
    private static final int OVER = 0, BACK = 1;

    private final State now;
    private final State kept;
    private boolean isKept;
    /** How many bodies ran, then the numbers of the first of them. */
    private final int[] traced;
    private final Goings goings;
    private final Search search;
    /** Whether PEOPLE or the NIGHT have changed since the tables of goings were laid. */
    private boolean stale;

    public LanternBridge() {
        now = new State();
        kept = new State();
        traced = new int[1 + MOST_TRACED];
        goings = new Goings();
        search = new Search(goings);
        stale = true;
    }

    // ---- nights, people

    public int feed(int sign) {
        if (sign < 0 || sign > 127) return BAD;
        if (now.signs >= MOST_SIGNS) return FULL;
        now.tape[now.signs] = sign;
        now.signs++;
        return now.signs;
    }

    public int night() {
        if (now.nights >= MOST_NIGHTS) return FULL;
        Night next = new Night(now.tape, now.signs);
        now.signs = 0;
        int fault = next.read();
        if (fault >= 0) return FAULT_AT_START - fault;
        now.night = next;
        now.nights++;
        stale = true;
        return now.nights - 1;
    }

    public int person(int kind, int v, int pace, int weight) {
        if (kind < 0 || kind > 6) return NONE;
        if (v < 0 || v > 9 || pace < 1 || pace > 30 || weight < 0 || weight > 9) return BAD;
        if (now.size >= MOST_PEOPLE) return FULL;
        now.people[now.size] = Walker.make(kind, now.size, v, pace, weight);
        now.size++;
        stale = true;
        return now.size - 1;
    }

    public int of(int person, int what) {
        Walker w = now.walker(person);
        if (w == null) return NONE;
        switch (what) {
            case 0: return w.kind;
            case 1: return w.v;
            case 2: return w.pace;
            case 3: return w.weight;
            case 4: return (now.far >> w.number) & 1;
            default: return NONE;
        }
    }

    public int told(int what) {
        switch (what) {
            case 0: return now.night.bears;
            case 1: return now.night.heavy;
            case 2: return now.night.oil;
            case 3: return now.minute;
            case 4: return now.made;
            case 5: return now.lantern;
            case 6: return now.far;
            default: return NONE;
        }
    }

    // ---- goings

    public int going(int set, int way, int what) {
        if (way < OVER || way > BACK || what < 0 || what > 1) return NONE;
        if (set == 0 || !now.isSet(set)) return BAD;
        refresh();
        return what == 1 ? goings.minutesOf(set, way) : goings.canBe(set, way) ? 1 : 0;
    }

    public int go(int set) {
        if (set == 0 || !now.isSet(set)) return BAD;
        refresh();
        if ((set & ~now.withLantern()) != 0 || !goings.canBe(set, now.lantern)) return STATE;
        int minutes = goings.minutesOf(set, now.lantern);
        int oil = now.night.oil;
        if (oil > 0 && now.minute + minutes > oil) return STATE;
        now.minute += minutes;
        now.made++;
        now.far ^= set;
        now.lantern = 1 - now.lantern;
        return minutes;
    }

    public int least(int set) {
        if (!now.isSet(set)) return BAD;
        refresh();
        return leastFor(set, 0);
    }

    public int fewest(int set) {
        if (!now.isSet(set)) return BAD;
        refresh();
        search.measureTo(set, 0, true);
        return search.measureAt(now.place());
    }

    public int first(int set) {
        if (!now.isSet(set)) return BAD;
        refresh();
        search.measureTo(set, 0, false);
        return search.firstSetAt(now.place());
    }

    public int by(int m, int what) {
        if (what < 0 || what > 1) return NONE;
        if (m < 0 || m > 999) return BAD;
        refresh();
        search.measureFrom(now.place());
        int who = search.mostOver(m);
        return what == 0 ? Integer.bitCount(who) : who;
    }

    // ---- worth, rules

    public int quicker(int person) {
        Walker w = now.walker(person);
        if (w == null) return NONE;
        if (w.pace == 1) return 0;
        refresh();
        int before = leastFor(now.everybody(), 0);
        if (before == NO_WAY) return NO_WAY;
        goings.putInstead(Walker.make(w.kind, w.number, w.v, w.pace - 1, w.weight));
        int after = leastFor(now.everybody(), 0);
        goings.putInstead(w);
        return before - after;
    }

    public int leave() {
        refresh();
        int best = NO_WAY;
        int leastSoFar = 0;
        for (int i = 0; i < now.size; i++) {
            int one = 1 << i;
            int minutes = leastFor(now.everybody() & ~one, one);
            if (minutes == NO_WAY) continue;
            if (best == NO_WAY || minutes < leastSoFar) {
                best = i;
                leastSoFar = minutes;
            }
        }
        return best;
    }

    public int rule(int rule, int what) {
        if (rule < 0 || rule > 3 || what < 0 || what > 2) return NONE;
        refresh();
        int place = now.place();
        int done = rule == 3 ? goings.bestRule(place) : rule;
        if (what == 1) return goings.byRule(done, place, true);
        int minutes = goings.byRule(done, place, false);
        if (what == 0 || minutes == NO_WAY) return minutes;
        int least = leastFor(now.everybody(), 0);
        return least == NO_WAY ? NO_WAY : minutes - least;
    }

    // ---- seen, chances, books

    public int seen(int set, int minutes) {
        if (set == -1) {
            now.rows = 0;
            return 0;
        }
        if (set == 0 || !now.isSet(set) || minutes < 1 || minutes > MOST_MINUTES) return BAD;
        if (now.rows >= MOST_ROWS) return FULL;
        now.rowSets[now.rows] = set;
        now.rowMinutes[now.rows] = minutes;
        now.rows++;
        return now.rows;
    }

    public int span(int person, int what) {
        if (now.walker(person) == null || what < 0 || what > 1) return NONE;
        if (!now.rowsAgree(0)) return 0;
        if (what == 1) return now.greatestOwn(person);
        // Whoever no row needs for its minutes may be as quick as can be.
        return now.rowsAgree(1 << person) ? 1 : now.greatestOwn(person);
    }

    public long chance(int person, int set, int p, int part) {
        if (now.walker(person) == null || !now.isSet(set) || ((set >> person) & 1) == 0) return NO;
        if (p < 0 || p > 10 || part < 0 || part > 1) return NO;
        refresh();
        int own = goings.takenBy(person, set, OVER);
        int others = goings.takenByOthers(person, set, OVER);
        int above = p * Math.max(others, Math.max(1, own - 1)) + (10 - p) * Math.max(others, own);
        int divisor = sharedWithTen(above);
        return part == 0 ? above / divisor : 10 / divisor;
    }

    public int book(int set) {
        if (set == -1) {
            now.booked = 0;
            return 0;
        }
        if (set == 0 || !now.isSet(set)) return BAD;
        if (now.booked >= MOST_ROWS) return FULL;
        now.bookSets[now.booked] = set;
        now.booked++;
        return now.booked;
    }

    public int looked(int what) {
        if (what < 0 || what > 1) return NONE;
        refresh();
        int far = now.far;
        int lantern = now.lantern;
        int minutes = 0;
        for (int i = 0; i < now.booked; i++) {
            int set = now.bookSets[i];
            int bank = lantern == 1 ? far : now.everybody() & ~far;
            if ((set & ~bank) != 0 || !goings.canBe(set, lantern)) return what == 0 ? i : minutes;
            minutes += goings.minutesOf(set, lantern);
            far ^= set;
            lantern = 1 - lantern;
        }
        return what == 0 ? NO_WAY : minutes;
    }

    // ---- acts, the image

    public int act(int person, int act, int x) {
        traced[0] = 0;
        Walker w = now.walker(person);
        if (w == null) return 0;
        switch (act) {
            case 0: return w.goes(x, traced);
            case 1: return w.waits(x, traced);
            case 2: return w.tells(x, traced);
            default: return 0;
        }
    }

    public int trace(int i) {
        if (i < 0 || i >= traced[0] || i >= MOST_TRACED) return NONE;
        return traced[1 + i];
    }

    public int as(int person, int k) {
        Walker w = now.walker(person);
        if (w == null || k < 0 || k > 6) return NONE;
        return w.isUnder(k) ? w.v : OTHER_KIND;
    }

    public int image() {
        kept.copyFrom(now);
        isKept = true;
        return now.size;
    }

    public int undo() {
        if (!isKept) return STATE;
        now.copyFrom(kept);
        stale = true;
        return now.size;
    }

    public int count(int what) {
        switch (what) {
            case 0: return now.size;
            case 1: return now.nights;
            case 2: return now.rows;
            case 3: return now.booked;
            case 4: return now.signs;
            case 5: return traced[0];
            default: return NONE;
        }
    }

    private void refresh() {
        if (!stale) return;
        goings.layFor(now);
        stale = false;
    }

    /** LEAST for a set, while those of stay go nowhere. */
    private int leastFor(int set, int stay) {
        search.measureTo(set, stay, false);
        return search.measureAt(now.place());
    }

    private static int sharedWithTen(int number) {
        for (int d = 10; d > 1; d--) {
            if (10 % d == 0 && number % d == 0) return d;
        }
        return 1;
    }

    /** All that there is, but THE IMAGE and THE TRACE. */
    private static final class State {
        final int[] tape = new int[MOST_SIGNS];
        int signs;
        Night night = new Night(new int[0], 0);
        int nights;
        final Walker[] people = new Walker[MOST_PEOPLE];
        int size;
        /** Who is on the far bank, as bits. */
        int far;
        int lantern;
        int minute;
        int made;
        final int[] rowSets = new int[MOST_ROWS];
        final int[] rowMinutes = new int[MOST_ROWS];
        int rows;
        final int[] bookSets = new int[MOST_ROWS];
        int booked;

        void copyFrom(State other) {
            System.arraycopy(other.tape, 0, tape, 0, MOST_SIGNS);
            signs = other.signs;
            night = other.night;
            nights = other.nights;
            for (int i = 0; i < MOST_PEOPLE; i++) people[i] = other.people[i];
            size = other.size;
            far = other.far;
            lantern = other.lantern;
            minute = other.minute;
            made = other.made;
            System.arraycopy(other.rowSets, 0, rowSets, 0, MOST_ROWS);
            System.arraycopy(other.rowMinutes, 0, rowMinutes, 0, MOST_ROWS);
            rows = other.rows;
            System.arraycopy(other.bookSets, 0, bookSets, 0, MOST_ROWS);
            booked = other.booked;
        }

        Walker walker(int number) {
            return number < 0 || number >= size ? null : people[number];
        }

        int everybody() {
            return (1 << size) - 1;
        }

        boolean isSet(int set) {
            return (set & ~everybody()) == 0;
        }

        int withLantern() {
            return lantern == 1 ? far : everybody() & ~far;
        }

        /** The banks and THE LANTERN as one number, as Search takes them. */
        int place() {
            return (far << 1) | lantern;
        }

        /** The most that one's own minutes can be: no row of theirs took less. */
        int greatestOwn(int number) {
            int most = MOST_MINUTES;
            for (int r = 0; r < rows; r++) {
                if (((rowSets[r] >> number) & 1) == 1) most = Math.min(most, rowMinutes[r]);
            }
            return most;
        }

        /** Whether for each row somebody, not one of without, can have taken all its minutes. */
        boolean rowsAgree(int without) {
            for (int r = 0; r < rows; r++) {
                boolean found = false;
                for (int i = 0; i < size; i++) {
                    int one = 1 << i;
                    if ((rowSets[r] & one & ~without) != 0 && greatestOwn(i) == rowMinutes[r]) found = true;
                }
                if (!found) return false;
            }
            return true;
        }
    }

    /** What is told of all the GOINGS that the PEOPLE can think of in the NIGHT. */
    private static final class Goings {
        private static final int MOST_BY_RULE = 40;

        private final Walker[] people = new Walker[MOST_PEOPLE];
        private int size;
        private int everybody;
        private int leaders;
        private Night night = new Night(new int[0], 0);
        private final int[] facts = new int[Night.FACTS];
        private final int[][] minutes = new int[2][MOST_SETS];
        /** 1: the set's GOING CAN be, and the bridge bears so many. */
        private final int[][] can = new int[2][MOST_SETS];

        void layFor(State state) {
            night = state.night;
            size = state.size;
            everybody = state.everybody();
            leaders = 0;
            for (int i = 0; i < MOST_PEOPLE; i++) {
                people[i] = state.people[i];
                if (i < size && people[i] instanceof Leading) leaders |= 1 << i;
            }
            layMinutes(everybody);
            layCan();
        }

        /** Puts one of another PACE in the place of one of the PEOPLE, who is the same in all else. */
        void putInstead(Walker one) {
            if (one.number < 0 || one.number >= size) return;
            people[one.number] = one;
            layMinutes(1 << one.number);
        }

        /** Lays the MINUTES of the sets in which one of some is. */
        private void layMinutes(int some) {
            for (int set = 1; set <= everybody; set++) {
                if ((set & some) == 0) continue;
                minutes[OVER][set] = 0;
                minutes[BACK][set] = 0;
                for (int i = 0; i < size; i++) {
                    if (((set >> i) & 1) == 0) continue;
                    minutes[OVER][set] = Math.max(minutes[OVER][set], takenBy(i, set, OVER));
                    minutes[BACK][set] = Math.max(minutes[BACK][set], takenBy(i, set, BACK));
                }
            }
        }

        private void layCan() {
            for (int set = 1; set <= everybody; set++) {
                boolean borne = isBorne(set);
                can[OVER][set] = borne && !isBarred(set, OVER) ? 1 : 0;
                can[BACK][set] = borne && !isBarred(set, BACK) ? 1 : 0;
            }
        }

        int everybody() {
            return everybody;
        }

        int minutesOf(int set, int way) {
            return minutes[way & 1][set & (MOST_SETS - 1)];
        }

        boolean canBe(int set, int way) {
            return can[way & 1][set & (MOST_SETS - 1)] == 1;
        }

        private boolean isBorne(int set) {
            int together = 0;
            for (int i = 0; i < size; i++) {
                Walker w = people[i];
                if (w != null && ((set >> i) & 1) == 1) together += w.weight;
            }
            return Integer.bitCount(set) <= night.bears && together <= night.heavy;
        }

        private boolean isBarred(int set, int way) {
            for (int i = 0; i < size; i++) {
                Walker w = people[i];
                if (w == null || ((set >> i) & 1) == 0) continue;
                layFacts(w, set, way);
                if (night.bars(facts)) return true;
            }
            return false;
        }

        /** The most that one of a set but this one TAKES in its GOING (0: nobody else goes). */
        int takenByOthers(int number, int set, int way) {
            int most = 0;
            for (int i = 0; i < size; i++) {
                if (i != number && ((set >> i) & 1) == 1) most = Math.max(most, takenBy(i, set, way));
            }
            return most;
        }

        int takenBy(int number, int set, int way) {
            Walker w = number < 0 || number >= size ? null : people[number];
            if (w == null) return 0;
            int others = set & ~(1 << number);
            layFacts(w, set, way);
            int taken = w.byKind(w.pace + night.slowness(facts), others, goesHeavier(others, w.weight), way);
            if ((others & leaders) != 0) taken--;
            return Math.max(1, taken);
        }

        private boolean goesHeavier(int others, int weight) {
            for (int i = 0; i < size; i++) {
                Walker w = people[i];
                if (w != null && ((others >> i) & 1) == 1 && w.weight > weight) return true;
            }
            return false;
        }

        private void layFacts(Walker w, int set, int way) {
            int leastOther = 9;
            for (int i = size - 1; i >= 0; i--) {
                if (i != w.number && ((set >> i) & 1) == 1) leastOther = i;
            }
            facts[0] = w.number;
            facts[1] = w.kind;
            facts[2] = w.weight;
            facts[3] = Integer.bitCount(set);
            facts[4] = way;
            facts[5] = leastOther;
        }

        /** That one of the rules 0, 1, 2 by which it is the fewest MINUTES. */
        int bestRule(int place) {
            int best = 0;
            int fewest = NO_WAY;
            for (int rule = 0; rule < 3; rule++) {
                int taken = byRule(rule, place, false);
                if (taken != NO_WAY && (fewest == NO_WAY || taken < fewest)) {
                    best = rule;
                    fewest = taken;
                }
            }
            return best;
        }

        /** How many GOINGS a rule makes, or else their MINUTES. */
        int byRule(int rule, int place, boolean counting) {
            int far = place >> 1;
            int lantern = place & 1;
            int taken = 0;
            for (int made = 0; made <= MOST_BY_RULE; made++) {
                int near = everybody & ~far;
                if (near == 0) return counting ? made : taken;
                int set = lantern == 1 ? quickestOf(far) : overByRule(rule, near);
                if (set == 0 || !canBe(set, lantern)) return NO_WAY;
                taken += minutesOf(set, lantern);
                far ^= set;
                lantern = 1 - lantern;
            }
            return NO_WAY;
        }

        private int overByRule(int rule, int near) {
            if (rule == 2) {
                int least = near & -near;
                int rest = near & ~least;
                return least | (rest & -rest);
            }
            if (rule == 1) {
                int quickest = quickestOf(everybody);
                int two = quickest | quickestOf(everybody & ~quickest);
                int there = Integer.bitCount(near);
                int ofTwo = Integer.bitCount(near & two);
                if (there >= 4 && ofTwo == 2) return two;
                if (there >= 3 && ofTwo == 1) {
                    int slowest = slowestOf(near);
                    return slowest | slowestOf(near & ~slowest);
                }
            }
            return quickestOf(near) | slowestOf(near);
        }

        /** The first one of some by THE ORDER, as a bit (0: there is none). */
        private int quickestOf(int some) {
            int found = 0;
            int pace = 0;
            for (int i = 0; i < size; i++) {
                Walker w = people[i];
                if (w == null || ((some >> i) & 1) == 0) continue;
                if (found == 0 || w.pace < pace) {
                    found = 1 << i;
                    pace = w.pace;
                }
            }
            return found;
        }

        /** The last one of some by THE ORDER, as a bit (0: there is none). */
        private int slowestOf(int some) {
            int found = 0;
            int pace = 0;
            for (int i = 0; i < size; i++) {
                Walker w = people[i];
                if (w == null || ((some >> i) & 1) == 0) continue;
                if (found == 0 || w.pace >= pace) {
                    found = 1 << i;
                    pace = w.pace;
                }
            }
            return found;
        }
    }

    /** Measures of places: a place is who is on the far bank, times 2, and the bank of THE LANTERN. */
    private static final class Search {
        private static final int PLACES = 2 * MOST_SETS, NEVER = 1 << 30;

        private final Goings goings;
        private final int[] measure = new int[PLACES];
        private final boolean[] settled = new boolean[PLACES];

        Search(Goings goings) {
            this.goings = goings;
        }

        /** Measures each place by what it still takes till all of a set are over, while those of stay go nowhere. */
        void measureTo(int set, int stay, boolean counting) {
            for (int p = 0; p < PLACES; p++) {
                measure[p] = (set & ~(p >> 1)) == 0 ? 0 : NEVER;
                settled[p] = false;
            }
            settleAll(1, stay, counting);
        }

        /** Measures each place by what it takes to come there. */
        void measureFrom(int start) {
            for (int p = 0; p < PLACES; p++) {
                measure[p] = p == start ? 0 : NEVER;
                settled[p] = false;
            }
            settleAll(0, 0, false);
        }

        int measureAt(int place) {
            if (place < 0 || place >= PLACES || measure[place] == NEVER) return NO_WAY;
            return measure[place];
        }

        /** Behind measureTo: the least set that goes first in a row of the least measure. */
        int firstSetAt(int place) {
            int left = measureAt(place);
            if (left <= 0) return NO_WAY;
            int way = place & 1;
            int bank = bankWithLantern(place);
            for (int set = 1; set <= goings.everybody(); set++) {
                if ((set & ~bank) != 0 || !goings.canBe(set, way)) continue;
                int behind = measureAt(placeBehind(place, set));
                if (behind != NO_WAY && behind + goings.minutesOf(set, way) == left) return set;
            }
            return NO_WAY;
        }

        /** Behind measureFrom: the most who are over in a place of measure m or less. */
        int mostOver(int m) {
            int who = 0;
            int most = -1;
            for (int p = 0; p < 2 * (goings.everybody() + 1) && p < PLACES; p++) {
                int over = Integer.bitCount(p >> 1);
                if (measure[p] <= m && over > most) {
                    most = over;
                    who = p >> 1;
                }
            }
            return who;
        }

        /** Turned is 1 where the GOINGS are followed from their ends: they went the other way then. */
        private void settleAll(int turned, int stay, boolean counting) {
            int places = Math.min(PLACES, 2 * (goings.everybody() + 1));
            for (int round = 0; round < places; round++) {
                int place = leastUnsettled(places);
                if (place < 0) return;
                settled[place] = true;
                int way = (place & 1) ^ turned;
                int bank = bankWithLantern(place) & ~stay;
                for (int set = 1; set <= bank; set++) {
                    if ((set & ~bank) != 0 || !goings.canBe(set, way)) continue;
                    int next = placeBehind(place, set);
                    int sum = measure[place] + (counting ? 1 : goings.minutesOf(set, way));
                    measure[next] = Math.min(measure[next], sum);
                }
            }
        }

        private int leastUnsettled(int places) {
            int found = -1;
            int least = NEVER;
            for (int p = 0; p < places; p++) {
                if (!settled[p] && measure[p] < least) {
                    found = p;
                    least = measure[p];
                }
            }
            return found;
        }

        private int bankWithLantern(int place) {
            int far = place >> 1;
            return (place & 1) == 1 ? far : goings.everybody() & ~far;
        }

        private static int placeBehind(int place, int set) {
            return (place ^ (set << 1) ^ 1) & (PLACES - 1);
        }
    }

    /** A NIGHT: reads its text into rows of clauses, and says what they do. */
    private static final class Night {
        static final int FACTS = 6;
        private static final int MOST_CLAUSES = 10, MOST_OPEN = 5;
        private static final int SLOW = 0, BAR = 1, BEARS = 2, HEAVY = 3, OIL = 4;
        /** In the code; a TEST stands there as (fact * 3 + sign) * 100 + number. */
        private static final int NOT = -1, AND = -2, OR = -3;
        private static final String FACT_LETTERS = "pkwnbq", SIGNS = "<=>";

        int bears = 2;
        int heavy = 99;
        int oil = 0;
        private final int[] text;
        private int at;
        /** The E of the clauses, one behind the other, each operator behind what it joins. */
        private final int[] code;
        private int codeSize;
        private final int[] word = new int[MOST_CLAUSES];
        private final int[] number = new int[MOST_CLAUSES];
        private final int[] codeEnd = new int[MOST_CLAUSES];
        private int clauses;

        Night(int[] tape, int signs) {
            int size = Math.max(0, Math.min(signs, tape.length));
            text = new int[size];
            System.arraycopy(tape, 0, text, 0, size);
            code = new int[size];
        }

        /** The FAULT, or -1. */
        int read() {
            for (int c = 0; c < MOST_CLAUSES; c++) {
                if (c > 0 && !take(';')) return at;
                int w = readWord();
                if (w < 0) return at;
                int n = 0;
                if (w != BAR) {
                    n = take(' ') ? readNumber() : -1;
                    if (n < 0) return at;
                }
                if (w == SLOW || w == BAR) {
                    if (!take(' ') || !readEither(0)) return at;
                }
                addClause(w, n);
                if (at == text.length) return -1;
            }
            return at;
        }

        private void addClause(int w, int n) {
            if (clauses >= MOST_CLAUSES) return;
            word[clauses] = w;
            number[clauses] = n;
            codeEnd[clauses] = codeSize;
            clauses++;
            if (w == BEARS) bears = n;
            if (w == HEAVY) heavy = n;
            if (w == OIL) oil = n;
        }

        /** The sign at a place of the text, -1 behind its end. */
        private int signAt(int place) {
            return place < 0 || place >= text.length ? -1 : text[place];
        }

        private boolean take(char sign) {
            if (signAt(at) != sign) return false;
            at++;
            return true;
        }

        private int readWord() {
            switch (signAt(at)) {
                case 's': return takeAll("slow") ? SLOW : -1;
                case 'h': return takeAll("heavy") ? HEAVY : -1;
                case 'o': return takeAll("oil") ? OIL : -1;
                case 'b': break;
                default: return -1;
            }
            if (signAt(at + 1) == 'a') return takeAll("bar") ? BAR : -1;
            return takeAll("bears") ? BEARS : -1;
        }

        private boolean takeAll(String signs) {
            for (int i = 0; i < signs.length(); i++) {
                if (!take(signs.charAt(i))) return false;
            }
            return true;
        }

        /** A number of 1 or 2 digits; a digit behind a 0 is left for what follows to stumble over. */
        private int readNumber() {
            int high = at < text.length ? text[at] - '0' : -1;
            if (high < 0 || high > 9) return -1;
            at++;
            int low = at < text.length ? text[at] - '0' : -1;
            if (high == 0 || low < 0 || low > 9) return high;
            at++;
            return high * 10 + low;
        }

        private boolean readEither(int open) {
            if (!readBoth(open)) return false;
            for (int i = 0; i < text.length && take('|'); i++) {
                if (!readBoth(open)) return false;
                addCode(OR);
            }
            return true;
        }

        private boolean readBoth(int open) {
            if (!readSingle(open)) return false;
            for (int i = 0; i < text.length && take('&'); i++) {
                if (!readSingle(open)) return false;
                addCode(AND);
            }
            return true;
        }

        private boolean readSingle(int open) {
            int sign = signAt(at);
            if (sign != '!' && sign != '(') return readTest();
            if (open >= MOST_OPEN) return false;
            at++;
            if (sign == '(') return readEither(open + 1) && take(')');
            if (!readSingle(open + 1)) return false;
            addCode(NOT);
            return true;
        }

        private boolean readTest() {
            int fact = indexIn(FACT_LETTERS);
            if (fact < 0) return false;
            at++;
            int sign = indexIn(SIGNS);
            if (sign < 0) return false;
            at++;
            int n = readNumber();
            if (n < 0) return false;
            addCode((fact * 3 + sign) * 100 + n);
            return true;
        }

        private int indexIn(String signs) {
            return at < text.length ? signs.indexOf((char) text[at]) : -1;
        }

        private void addCode(int c) {
            if (codeSize >= code.length) return;
            code[codeSize] = c;
            codeSize++;
        }

        /** The n of all slow whose E holds, together. */
        int slowness(int[] facts) {
            int sum = 0;
            for (int c = 0; c < clauses; c++) {
                if (word[c] == SLOW && holds(c, facts)) sum += number[c];
            }
            return sum;
        }

        boolean bars(int[] facts) {
            for (int c = 0; c < clauses; c++) {
                if (word[c] == BAR && holds(c, facts)) return true;
            }
            return false;
        }

        /** Runs a clause's code on a stack of bits: MOST_OPEN keeps it far below 32. */
        private boolean holds(int clause, int[] facts) {
            int from = clause > 0 ? codeEnd[clause - 1] : 0;
            int stack = 0;
            for (int i = from; i < codeEnd[clause]; i++) {
                int c = code[i];
                int below = stack >> 1;
                if (c == NOT) {
                    stack ^= 1;
                } else if (c == AND) {
                    stack = below & (stack | ~1);
                } else if (c == OR) {
                    stack = below | (stack & 1);
                } else {
                    int fact = c / 300;
                    int value = fact < 0 || fact >= facts.length ? 0 : facts[fact];
                    int sign = c / 100 % 3;
                    int n = c % 100;
                    boolean passes = sign == 0 ? value < n : sign == 1 ? value == n : value > n;
                    stack = (stack << 1) | (passes ? 1 : 0);
                }
            }
            return (stack & 1) == 1;
        }
    }

    /** One of the PEOPLE, and what they do by KIND: the classes are under one another as the KINDS are. */
    private static class Walker {
        final int kind;
        final int number;
        final int v;
        final int pace;
        final int weight;

        Walker(int kind, int number, int v, int pace, int weight) {
            this.kind = kind;
            this.number = number;
            this.v = v;
            this.pace = pace;
            this.weight = weight;
        }

        static Walker make(int kind, int number, int v, int pace, int weight) {
            switch (kind) {
                case 1: return new Quick(kind, number, v, pace, weight);
                case 2: return new Lame(kind, number, v, pace, weight);
                case 3: return new Tied(kind, number, v, pace, weight);
                case 4: return new Leading(kind, number, v, pace, weight);
                case 5: return new Carried(kind, number, v, pace, weight);
                case 6: return new Tiring(kind, number, v, pace, weight);
                default: return new Walker(kind, number, v, pace, weight);
            }
        }

        final boolean isUnder(int k) {
            switch (k) {
                case 0: return true;
                case 1: return this instanceof Quick;
                case 2: return this instanceof Lame;
                case 3: return this instanceof Tied;
                case 4: return this instanceof Leading;
                case 5: return this instanceof Carried;
                case 6: return this instanceof Tiring;
                default: return false;
            }
        }

        /** What the KIND makes of the minutes that one of PACE and slow would TAKE. */
        int byKind(int minutes, int others, boolean heavierGoes, int way) {
            return minutes;
        }

        int goes(int x, int[] traced) {
            begin(1, traced);
            return x + number;
        }

        int waits(int x, int[] traced) {
            begin(2, traced);
            return goes(x, traced) - v;
        }

        int tells(int x, int[] traced) {
            begin(3, traced);
            return waits(x, traced) * 2;
        }

        static void begin(int body, int[] traced) {
            int ran = traced.length == 0 ? -1 : traced[0] + 1;
            if (ran < 1) return;
            traced[0] = ran;
            if (ran < traced.length) traced[ran] = body;
        }
    }

    private static class Quick extends Walker {
        Quick(int kind, int number, int v, int pace, int weight) {
            super(kind, number, v, pace, weight);
        }

        int byKind(int minutes, int others, boolean heavierGoes, int way) {
            return others == 0 ? minutes - v : minutes;
        }

        int goes(int x, int[] traced) {
            begin(11, traced);
            return super.goes(x * 3, traced);
        }
    }

    private static class Lame extends Walker {
        Lame(int kind, int number, int v, int pace, int weight) {
            super(kind, number, v, pace, weight);
        }

        int byKind(int minutes, int others, boolean heavierGoes, int way) {
            return heavierGoes ? minutes : minutes + v;
        }

        int waits(int x, int[] traced) {
            begin(21, traced);
            return -super.waits(x, traced);
        }
    }

    private static class Tied extends Walker {
        Tied(int kind, int number, int v, int pace, int weight) {
            super(kind, number, v, pace, weight);
        }

        int byKind(int minutes, int others, boolean heavierGoes, int way) {
            int one = 1 << number;
            int beside = (one << 1) | (one >> 1);
            return (others & beside) == 0 ? minutes + v : minutes;
        }

        int tells(int x, int[] traced) {
            begin(31, traced);
            return super.tells(x, traced) ^ 7;
        }
    }

    private static final class Leading extends Quick {
        Leading(int kind, int number, int v, int pace, int weight) {
            super(kind, number, v, pace, weight);
        }

        int tells(int x, int[] traced) {
            begin(41, traced);
            return super.tells(x - 1, traced) + goes(2, traced);
        }
    }

    private static final class Carried extends Lame {
        Carried(int kind, int number, int v, int pace, int weight) {
            super(kind, number, v, pace, weight);
        }

        int byKind(int minutes, int others, boolean heavierGoes, int way) {
            int alone = super.byKind(minutes, others, heavierGoes, way);
            return others == 0 ? alone : (alone + 1) / 2;
        }

        int goes(int x, int[] traced) {
            begin(51, traced);
            return super.goes(x, traced) ^ number;
        }
    }

    private static final class Tiring extends Tied {
        Tiring(int kind, int number, int v, int pace, int weight) {
            super(kind, number, v, pace, weight);
        }

        int byKind(int minutes, int others, boolean heavierGoes, int way) {
            int over = super.byKind(minutes, others, heavierGoes, way);
            return way == BACK ? over + v : over;
        }

        int waits(int x, int[] traced) {
            begin(61, traced);
            return super.waits(x, traced) + v;
        }
    }
}
