import java.util.ArrayDeque;
import java.util.ArrayList;
import java.util.Deque;
import java.util.List;
import java.util.regex.Matcher;
import java.util.regex.Pattern;

/**
 * The document once more, written another way: the years go by one after the other, and a town gets a trait in the
 * first year in which it can. Slow, and made of whatever the Java library has.
 */
final class Model {
    private static final String REPORT = "[0-9][+-][0-5]:(0|[1-9][0-9]?[0-9]?)";
    private static final Pattern REPORTS = Pattern.compile(REPORT + "(;" + REPORT + ")*");
    private static final int UNKNOWN = -1;

    /** What actions change. */
    private static final class State {
        int towns = 0;
        int[][] road = new int[10][10];
        int[][] had = new int[10][6];
        int[][] lacked = new int[10][6];

        State() {
            for (int t = 0; t < 10; t++) {
                java.util.Arrays.fill(had[t], UNKNOWN);
                java.util.Arrays.fill(lacked[t], UNKNOWN);
            }
        }

        State copy() {
            State other = new State();
            other.towns = towns;
            for (int t = 0; t < 10; t++) {
                other.road[t] = road[t].clone();
                other.had[t] = had[t].clone();
                other.lacked[t] = lacked[t].clone();
            }
            return other;
        }
    }

    private State s = new State();
    private final Deque<State> past = new ArrayDeque<>();
    private String text = "";
    private final State[] slots = new State[2];

    // ---- text

    int append(int c) {
        argument(c >= 0 && c <= 255);
        state(text.length() < 100);
        text += (char) c;
        return text.length();
    }

    int clearText() {
        int before = text.length();
        text = "";
        return before;
    }

    int errorPosition() {
        if (REPORTS.matcher(text).matches()) {
            return -1;
        }
        for (int end = 1; end <= text.length(); end++) {
            Matcher begun = REPORTS.matcher(text.substring(0, end));
            if (!begun.matches() && !begun.hitEnd()) {
                return end - 1;
            }
        }
        return text.length();
    }

    // ---- what there is

    int about(int what) {
        argument(what >= 0 && what <= 5);
        int pairs = 0;
        int wrong = 0;
        int invented = 0;
        for (int trait = 0; trait < 6; trait++) {
            for (int t = 0; t < s.towns; t++) {
                pairs += s.had[t][trait] != UNKNOWN || s.lacked[t][trait] != UNKNOWN ? 1 : 0;
                wrong += contradicted(t, trait) ? 1 : 0;
            }
            invented += what == 4 && leastSets(trait) != null && !leastSets(trait).contains(0) ? 1 : 0;
        }
        int[] all = {s.towns, roads(), pairs, wrong, invented, what == 5 ? cost() : 0};
        return all[what];
    }

    int road(int a, int b) {
        town(a, b);
        return s.road[a][b] == 0 ? -1 : s.road[a][b];
    }

    int neighbor(int t, int k) {
        town(t, t);
        argument(k >= 0);
        List<Integer> beside = new ArrayList<>();
        for (int u = 0; u < s.towns; u++) {
            if (s.road[t][u] > 0) {
                beside.add(u);
            }
        }
        return k < beside.size() ? beside.get(k) : -1;
    }

    int report(int t, int trait, boolean had) {
        town(t, t);
        argument(trait >= 0 && trait <= 5);
        return had ? s.had[t][trait] : s.lacked[t][trait];
    }

    // ---- actions

    int found() {
        state(s.towns < 10);
        remember();
        return s.towns++;
    }

    int lay(int a, int b, int length) {
        mayLay(a, b, length);
        remember();
        s.road[a][b] = length;
        s.road[b][a] = length;
        return roads();
    }

    private void mayLay(int a, int b, int length) {
        town(a, b);
        argument(a != b && length >= 1 && length <= 99);
        state(s.road[a][b] > 0 || roadsAt(a) < 3 && roadsAt(b) < 3 && roads() < 15);
    }

    int tear(int a, int b) {
        town(a, b);
        state(s.road[a][b] > 0);
        remember();
        int length = s.road[a][b];
        s.road[a][b] = 0;
        s.road[b][a] = 0;
        return length;
    }

    int see(int t, int trait, int year, boolean had) {
        town(t, t);
        argument(trait >= 0 && trait <= 5 && year >= 0 && year <= 999);
        remember();
        return take(t, trait, year, had);
    }

    private int take(int t, int trait, int year, boolean had) {
        int hadBefore = s.had[t][trait];
        int lackedBefore = s.lacked[t][trait];
        if (had) {
            s.had[t][trait] = hadBefore == UNKNOWN ? year : Math.min(hadBefore, year);
        } else {
            s.lacked[t][trait] = Math.max(lackedBefore, year);
        }
        return s.had[t][trait] != hadBefore || s.lacked[t][trait] != lackedBefore ? 1 : 0;
    }

    int seeAll() {
        state(errorPosition() == -1);
        remember();
        int left = 0;
        for (String one : text.split(";")) {
            int t = one.charAt(0) - '0';
            if (t < s.towns) {
                take(t, one.charAt(2) - '0', Integer.parseInt(one.substring(4)), one.charAt(1) == '+');
            } else {
                left++;
            }
        }
        return left;
    }

    int forget(int t, int trait) {
        town(t, t);
        argument(trait >= 0 && trait <= 5);
        remember();
        boolean any = s.had[t][trait] != UNKNOWN || s.lacked[t][trait] != UNKNOWN;
        s.had[t][trait] = UNKNOWN;
        s.lacked[t][trait] = UNKNOWN;
        return any ? 1 : 0;
    }

    int undo() {
        state(!past.isEmpty());
        s = past.removeLast();
        return past.size();
    }

    private void remember() {
        past.addLast(s.copy());
        if (past.size() > 14) {
            past.removeFirst();
        }
    }

    // ---- histories

    int inventions(int trait) {
        argument(trait >= 0 && trait <= 5);
        List<Integer> sets = leastSets(trait);
        return sets == null ? -1 : Integer.bitCount(sets.get(0));
    }

    int invented(int trait, int kind) {
        argument(trait >= 0 && trait <= 5 && kind >= 0 && kind <= 2);
        List<Integer> sets = leastSets(trait);
        if (sets == null) {
            return -1;
        }
        int least = Integer.MAX_VALUE;
        int all = -1;
        int some = 0;
        for (int set : sets) {
            least = Math.min(least, set);
            all &= set;
            some |= set;
        }
        return kind == 0 ? least : kind == 1 ? all : some;
    }

    int choices(int trait) {
        argument(trait >= 0 && trait <= 5);
        List<Integer> sets = leastSets(trait);
        return sets == null ? -1 : sets.size();
    }

    int since(int t, int trait) {
        town(t, t);
        argument(trait >= 0 && trait <= 5);
        return leastSets(trait) == null ? -1 : years(trait, invented(trait, 0), -1, -1, 999)[t];
    }

    int reached(int trait, int k) {
        argument(trait >= 0 && trait <= 5 && k >= 0);
        if (leastSets(trait) == null) {
            return -1;
        }
        int[] since = years(trait, invented(trait, 0), -1, -1, 999);
        for (int year = 0; year <= 999; year++) {
            for (int t = 0; t < s.towns; t++) {
                if (since[t] == year) {
                    if (k == 0) {
                        return t;
                    }
                    k--;
                }
            }
        }
        return -1;
    }

    int passed(int a, int b, int trait) {
        town(a, b);
        argument(trait >= 0 && trait <= 5);
        List<Integer> sets = leastSets(trait);
        if (s.road[a][b] == 0 || s.had[b][trait] == UNKNOWN || sets == null) {
            return 0;
        }
        for (int set : sets) {
            if ((set & 1 << b) == 0 && inTime(trait, years(trait, set, b, a, latestReport(trait)))) {
                return 1;
            }
        }
        return 0;
    }

    int ifLaid(int a, int b, int length) {
        mayLay(a, b, length);
        State before = s;
        s = s.copy();
        s.road[a][b] = length;
        s.road[b][a] = length;
        int cost = cost();
        s = before;
        return cost;
    }

    int bestRoad(int length) {
        argument(length >= 1 && length <= 99);
        int best = -1;
        int least = Integer.MAX_VALUE;
        for (int number = 0; number < 100; number++) {
            int a = number / 10;
            int b = number % 10;
            boolean free = a < b && b < s.towns && s.road[a][b] == 0;
            if (free && roadsAt(a) < 3 && roadsAt(b) < 3 && roads() < 15 && ifLaid(a, b, length) < least) {
                least = ifLaid(a, b, length);
                best = number;
            }
        }
        return best;
    }

    int dearest() {
        int best = -1;
        int least = cost();
        for (int t = 0; t < s.towns; t++) {
            for (int trait = 0; trait < 6; trait++) {
                State before = s;
                s = s.copy();
                s.had[t][trait] = UNKNOWN;
                s.lacked[t][trait] = UNKNOWN;
                int cost = cost();
                s = before;
                if (cost < least) {
                    least = cost;
                    best = 10 * t + trait;
                }
            }
        }
        return best;
    }

    // ---- scripts, simulations

    int runScript(int n, long script) {
        argument(n >= 1 && n <= 3 && script >= 0 && String.valueOf(script).length() <= 6 * n);
        StringBuilder digits = new StringBuilder(String.valueOf(script));
        while (digits.length() < 6 * n) {
            digits.insert(0, '0');
        }
        Model copy = new Model();
        copy.s = s.copy();
        for (int i = 0; i < n; i++) {
            try {
                copy.command(digits.substring(6 * i, 6 * i + 6));
            } catch (RuntimeException e) {
                return i;
            }
        }
        return -1;
    }

    /** Throws if the command fails. */
    private void command(String d) {
        int a = d.charAt(1) - '0';
        int b = d.charAt(2) - '0';
        int end2 = Integer.parseInt(d.substring(4));
        int end3 = Integer.parseInt(d.substring(3));
        if (d.equals("100000")) {
            found();
        } else if (d.matches("2..0..")) {
            lay(a, b, end2);
        } else if (d.matches("3..000")) {
            tear(a, b);
        } else if (d.matches("4.....")) {
            see(a, b, end3, true);
        } else if (d.matches("5.....")) {
            see(a, b, end3, false);
        } else if (d.matches("6..000")) {
            forget(a, b);
        } else if (d.matches("7.00..")) {
            state(inventions(a) != -1 && inventions(a) <= end2);
        } else if (d.matches("8000..")) {
            state(about(5) <= end2);
        } else if (d.matches("9.....")) {
            state(since(a, b) != -1 && since(a, b) <= end3);
        } else {
            state(false);
        }
    }

    int simulate(long seed, int m) {
        argument(m >= 1 && m <= 99);
        Model copy = new Model();
        copy.s = s.copy();
        long x = seed;
        for (int i = 0; i < m; i++) {
            x = x * 6364136223846793005L + 1442695040888963407L;
            try {
                copy.turn((int) (x >>> 33));
            } catch (RuntimeException e) {
                continue;
            }
        }
        return 1000 * copy.about(5) + 100 * copy.about(3) + copy.about(1);
    }

    private void turn(int r) {
        int n = Math.max(1, s.towns);
        int a = r / 16 % n;
        int b = r / 256 % n;
        switch (r % 16) {
            case 0 -> found();
            case 1, 2, 3, 4 -> lay(a, b, 1 + r / 4096 % 60);
            case 5 -> tear(a, b);
            case 6, 7, 8, 9, 10, 11, 12 -> see(a, r / 64 % 6, r / 512 % 1000, true);
            default -> see(a, r / 64 % 6, r / 512 % 200, false);
        }
    }

    // ---- save slots

    int save(int slot) {
        index(slot == 0 || slot == 1);
        slots[slot] = s.copy();
        return s.towns;
    }

    int restore(int slot) {
        index(slot == 0 || slot == 1);
        state(slots[slot] != null);
        s = slots[slot].copy();
        past.clear();
        return s.towns;
    }

    // ---- the years

    /** The sets of least histories; null if there is no history. */
    private List<Integer> leastSets(int trait) {
        for (int t = 0; t < s.towns; t++) {
            if (contradicted(t, trait)) {
                return null;
            }
        }
        for (int size = 0; size <= s.towns; size++) {
            List<Integer> sets = new ArrayList<>();
            for (int set = 0; set < 1 << s.towns; set++) {
                if (Integer.bitCount(set) == size
                        && inTime(trait, years(trait, set, -1, -1, latestReport(trait)))) {
                    sets.add(set);
                }
            }
            if (!sets.isEmpty()) {
                return sets;
            }
        }
        throw new AssertionError("a trait without contradictions can be invented everywhere");
    }

    /** Since when each town has the trait, -1 if not up to the last year; the town fed has it from the town feeder alone. */
    private int[] years(int trait, int set, int fed, int feeder, int last) {
        int[] since = new int[s.towns];
        java.util.Arrays.fill(since, -1);
        for (int year = 0; year <= last; year++) {
            for (int t = 0; t < s.towns; t++) {
                if (since[t] == -1 && year > s.lacked[t][trait]) {
                    boolean gets = (set & 1 << t) != 0;
                    for (int u = 0; u < s.towns && !gets; u++) {
                        boolean open = s.road[u][t] > 0 && (t != fed || u == feeder);
                        gets = open && since[u] != -1 && since[u] + s.road[u][t] <= year;
                    }
                    since[t] = gets ? year : -1;
                }
            }
        }
        return since;
    }

    private boolean inTime(int trait, int[] since) {
        for (int t = 0; t < s.towns; t++) {
            if (s.had[t][trait] != UNKNOWN && (since[t] == -1 || since[t] > s.had[t][trait])) {
                return false;
            }
        }
        return true;
    }

    private int latestReport(int trait) {
        int last = -1;
        for (int t = 0; t < s.towns; t++) {
            last = Math.max(last, s.had[t][trait]);
        }
        return last;
    }

    private int cost() {
        int sum = 0;
        for (int trait = 0; trait < 6; trait++) {
            sum += Math.max(0, inventions(trait));
        }
        return sum;
    }

    private boolean contradicted(int t, int trait) {
        return s.had[t][trait] != UNKNOWN && s.lacked[t][trait] >= s.had[t][trait];
    }

    private int roads() {
        int ends = 0;
        for (int t = 0; t < s.towns; t++) {
            ends += roadsAt(t);
        }
        return ends / 2;
    }

    private int roadsAt(int t) {
        int count = 0;
        for (int u = 0; u < s.towns; u++) {
            count += s.road[t][u] > 0 ? 1 : 0;
        }
        return count;
    }

    // ---- exceptions

    private void town(int a, int b) {
        index(a >= 0 && a < s.towns && b >= 0 && b < s.towns);
    }

    private static void index(boolean holds) {
        if (!holds) {
            throw new IndexOutOfBoundsException();
        }
    }

    private static void argument(boolean holds) {
        if (!holds) {
            throw new IllegalArgumentException();
        }
    }

    private static void state(boolean holds) {
        if (!holds) {
            throw new IllegalStateException();
        }
    }
}
