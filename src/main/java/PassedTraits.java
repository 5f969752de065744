import java.util.Arrays;

/** Traits that are passed along roads between towns, and the fewest inventions that explain the reports of them. */
public final class PassedTraits {
    public static final int NONE = -1;

    private static final int MOST_TOWNS = 10;
    private static final int MOST_ROADS = 15;
    private static final int MOST_ROADS_AT_A_TOWN = 3;
    private static final int LONGEST_ROAD = 99;
    private static final int TRAITS = 6;
    private static final int LAST_YEAR = 999;
    private static final int LAST_SIGN = 255;
    private static final int SLOTS = 2;
    private static final int MOST_COMMANDS = 3;
    private static final int MOST_TURNS = 99;
    private static final long GROUP = 1_000_000L;

    private final Land land;
    private final Past past;
    private final ReportText text;
    private final Histories histories;
    private final Rehearsal rehearsal;
    private final int[][] slots;
    private final boolean[] saved;

    public PassedTraits() {
        land = new Land();
        past = new Past();
        text = new ReportText();
        histories = new Histories();
        rehearsal = new Rehearsal();
        slots = new int[SLOTS][Land.CELLS];
        saved = new boolean[SLOTS];
    }

    // ---- text

    public int append(int c) throws IllegalArgumentException, IllegalStateException {
        if (c < 0 || c > LAST_SIGN) {
            throw new IllegalArgumentException("no such character code");
        }
        if (text.isFull()) {
            throw new IllegalStateException("the text is full");
        }
        return text.add(c);
    }

    public int clearText() {
        return text.empty();
    }

    public int errorPosition() {
        return text.firstError();
    }

    // ---- what there is

    public int about(int what) throws IllegalArgumentException {
        switch (what) {
            case 0:
                return land.townCount();
            case 1:
                return land.roadCount();
            case 2:
                return land.reportedPairs();
            case 3:
                return land.contradictions();
            case 4:
                return histories.inventedTraits(land);
            case 5:
                return histories.allInventions(land);
            default:
                throw new IllegalArgumentException("no such number");
        }
    }

    public int road(int a, int b) throws IndexOutOfBoundsException {
        needTown(a);
        needTown(b);
        return land.roadLength(a, b);
    }

    public int neighbor(int t, int k) throws IndexOutOfBoundsException, IllegalArgumentException {
        needTown(t);
        needCount(k);
        return land.townBeside(t, k);
    }

    public int report(int t, int trait, boolean had) throws IndexOutOfBoundsException, IllegalArgumentException {
        needTown(t);
        needTrait(trait);
        return land.reportedYear(t, trait, had);
    }

    // ---- actions

    public int found() throws IllegalStateException {
        if (land.townCount() >= MOST_TOWNS) {
            throw new IllegalStateException("there are as many towns as there may be");
        }
        past.remember(land);
        return land.addTown();
    }

    public int lay(int a, int b, int length)
            throws IndexOutOfBoundsException, IllegalArgumentException, IllegalStateException {
        needPossibleRoad(a, b, length);
        past.remember(land);
        land.join(a, b, length);
        return land.roadCount();
    }

    public int tear(int a, int b) throws IndexOutOfBoundsException, IllegalStateException {
        needTown(a);
        needTown(b);
        if (land.roadLength(a, b) == NONE) {
            throw new IllegalStateException("there is no road between them");
        }
        past.remember(land);
        return land.cut(a, b);
    }

    public int see(int t, int trait, int year, boolean had)
            throws IndexOutOfBoundsException, IllegalArgumentException {
        needTown(t);
        needTrait(trait);
        if (!isYear(year)) {
            throw new IllegalArgumentException("no such year");
        }
        past.remember(land);
        return land.note(t, trait, year, had);
    }

    public int seeAll() throws IllegalStateException {
        if (text.firstError() != NONE) {
            throw new IllegalStateException("the text is not reports");
        }
        past.remember(land);
        return text.noteIn(land);
    }

    public int forget(int t, int trait) throws IndexOutOfBoundsException, IllegalArgumentException {
        needTown(t);
        needTrait(trait);
        past.remember(land);
        return land.drop(t, trait);
    }

    public int undo() throws IllegalStateException {
        if (past.isEmpty()) {
            throw new IllegalStateException("no state is remembered");
        }
        return past.takeBack(land);
    }

    // ---- histories

    public int inventions(int trait) throws IllegalArgumentException {
        needTrait(trait);
        return histories.study(land, trait);
    }

    public int invented(int trait, int kind) throws IllegalArgumentException {
        needTrait(trait);
        if (kind < 0 || kind > 2) {
            throw new IllegalArgumentException("no such kind");
        }
        if (histories.study(land, trait) == NONE) {
            return NONE;
        }
        return kind == 0 ? histories.origins : kind == 1 ? histories.always : histories.sometimes;
    }

    public int choices(int trait) throws IllegalArgumentException {
        needTrait(trait);
        return histories.study(land, trait) == NONE ? NONE : histories.leastSets;
    }

    public int since(int t, int trait) throws IndexOutOfBoundsException, IllegalArgumentException {
        needTown(t);
        needTrait(trait);
        return histories.sinceWhen(land, t, trait);
    }

    public int reached(int trait, int k) throws IllegalArgumentException {
        needTrait(trait);
        needCount(k);
        return histories.townInOrder(land, trait, k);
    }

    public int passed(int a, int b, int trait) throws IndexOutOfBoundsException, IllegalArgumentException {
        needTown(a);
        needTown(b);
        needTrait(trait);
        return histories.canHavePassed(land, a, b, trait) ? 1 : 0;
    }

    public int ifLaid(int a, int b, int length)
            throws IndexOutOfBoundsException, IllegalArgumentException, IllegalStateException {
        needPossibleRoad(a, b, length);
        rehearsal.begin(land);
        return rehearsal.inventionsWithRoad(a, b, length);
    }

    public int bestRoad(int length) throws IllegalArgumentException {
        if (!isLength(length)) {
            throw new IllegalArgumentException("no such length");
        }
        rehearsal.begin(land);
        return rehearsal.newRoad(length);
    }

    public int dearest() {
        rehearsal.begin(land);
        return rehearsal.costliestReport();
    }

    // ---- scripts, simulations

    public int runScript(int n, long script) throws IllegalArgumentException {
        if (n < 1 || n > MOST_COMMANDS) {
            throw new IllegalArgumentException("no such number of commands");
        }
        long unit = 1;
        for (int i = 0; i < n; i++) {
            unit = unit * GROUP;
        }
        if (script < 0 || script >= unit) {
            throw new IllegalArgumentException("not a script of so many commands");
        }
        rehearsal.begin(land);
        for (int i = 0; i < n; i++) {
            unit = unit / GROUP;
            if (unit < 1 || !rehearsal.obeys((int) (script / unit % GROUP))) {
                return i;
            }
        }
        return NONE;
    }

    public int simulate(long seed, int m) throws IllegalArgumentException {
        if (m < 1 || m > MOST_TURNS) {
            throw new IllegalArgumentException("no such number of turns");
        }
        rehearsal.begin(land);
        long x = seed;
        for (int i = 0; i < m; i++) {
            x = x * 6364136223846793005L + 1442695040888963407L;
            rehearsal.turn((int) (x >>> 33));
        }
        return rehearsal.summary();
    }

    // ---- save slots

    public int save(int slot) throws IndexOutOfBoundsException {
        needSlot(slot);
        land.writeTo(slots[slot]);
        saved[slot] = true;
        return land.townCount();
    }

    public int restore(int slot) throws IndexOutOfBoundsException, IllegalStateException {
        needSlot(slot);
        if (!saved[slot]) {
            throw new IllegalStateException("nothing has been saved in this slot");
        }
        land.readFrom(slots[slot]);
        past.clear();
        return land.townCount();
    }

    // ---- what the calls ask of their arguments

    private void needTown(int t) {
        if (!land.isTown(t)) {
            throw new IndexOutOfBoundsException("no such town");
        }
    }

    private void needPossibleRoad(int a, int b, int length) {
        needTown(a);
        needTown(b);
        if (a == b || !isLength(length)) {
            throw new IllegalArgumentException("no such road");
        }
        if (!land.canJoin(a, b, length)) {
            throw new IllegalStateException("as many roads as may be are there already");
        }
    }

    private static void needTrait(int trait) {
        if (!isTrait(trait)) {
            throw new IllegalArgumentException("no such trait");
        }
    }

    private static void needCount(int k) {
        if (k < 0) {
            throw new IllegalArgumentException("a negative number");
        }
    }

    private static void needSlot(int slot) {
        if (slot < 0 || slot >= SLOTS) {
            throw new IndexOutOfBoundsException("no such save slot");
        }
    }

    private static boolean isTrait(int trait) {
        return trait >= 0 && trait < TRAITS;
    }

    private static boolean isYear(int year) {
        return year >= 0 && year <= LAST_YEAR;
    }

    private static boolean isLength(int length) {
        return length >= 1 && length <= LONGEST_ROAD;
    }

    /** The state: towns, roads and reports, in one row of numbers, so that one copy remembers all of it. */
    private static final class Land {
        static final int CELLS = 1 + MOST_TOWNS * MOST_TOWNS + 2 * MOST_TOWNS * TRAITS;
        private static final int TOWNS = 0;
        private static final int ROADS = 1;
        private static final int HAD = ROADS + MOST_TOWNS * MOST_TOWNS;
        private static final int LACKED = HAD + MOST_TOWNS * TRAITS;

        private final int[] cells;

        Land() {
            cells = new int[CELLS];
            Arrays.fill(cells, NONE);
            cells[TOWNS] = 0;
        }

        void writeTo(int[] row) {
            if (row.length == CELLS) {
                System.arraycopy(cells, 0, row, 0, CELLS);
            }
        }

        void readFrom(int[] row) {
            if (row.length == CELLS) {
                System.arraycopy(row, 0, cells, 0, CELLS);
            }
        }

        void takeOver(Land other) {
            other.writeTo(cells);
        }

        int townCount() {
            return cells[TOWNS];
        }

        boolean isTown(int t) {
            return t >= 0 && t < cells[TOWNS] && t < MOST_TOWNS;
        }

        int roadLength(int a, int b) {
            return isTown(a) && isTown(b) ? cells[ROADS + a * MOST_TOWNS + b] : NONE;
        }

        int roadCount() {
            int count = 0;
            for (int a = 0; a < cells[TOWNS]; a++) {
                for (int b = a + 1; b < cells[TOWNS]; b++) {
                    if (roadLength(a, b) != NONE) {
                        count++;
                    }
                }
            }
            return count;
        }

        private int roadsAt(int t) {
            int count = 0;
            for (int u = 0; u < cells[TOWNS]; u++) {
                if (roadLength(t, u) != NONE) {
                    count++;
                }
            }
            return count;
        }

        /** The town beside t before which k others come, the lowest first. */
        int townBeside(int t, int k) {
            int before = 0;
            for (int u = 0; u < cells[TOWNS]; u++) {
                if (roadLength(t, u) != NONE) {
                    if (before == k) {
                        return u;
                    }
                    before++;
                }
            }
            return NONE;
        }

        int reportedYear(int t, int trait, boolean had) {
            if (!isTown(t) || !isTrait(trait)) {
                return NONE;
            }
            return cells[(had ? HAD : LACKED) + t * TRAITS + trait];
        }

        boolean isReported(int t, int trait) {
            return reportedYear(t, trait, true) != NONE || reportedYear(t, trait, false) != NONE;
        }

        private boolean isContradicted(int t, int trait) {
            int had = reportedYear(t, trait, true);
            return had != NONE && had <= reportedYear(t, trait, false);
        }

        int reportedPairs() {
            int count = 0;
            for (int t = 0; t < cells[TOWNS]; t++) {
                for (int trait = 0; trait < TRAITS; trait++) {
                    if (isReported(t, trait)) {
                        count++;
                    }
                }
            }
            return count;
        }

        int contradictions() {
            int count = 0;
            for (int t = 0; t < cells[TOWNS]; t++) {
                for (int trait = 0; trait < TRAITS; trait++) {
                    if (isContradicted(t, trait)) {
                        count++;
                    }
                }
            }
            return count;
        }

        boolean canJoin(int a, int b, int length) {
            if (!isTown(a) || !isTown(b) || a == b || !isLength(length)) {
                return false;
            }
            if (roadLength(a, b) != NONE) {
                return true;
            }
            return roadsAt(a) < MOST_ROADS_AT_A_TOWN && roadsAt(b) < MOST_ROADS_AT_A_TOWN && roadCount() < MOST_ROADS;
        }

        /** Founds a town; answers NONE if there is no place for one. */
        int addTown() {
            int t = cells[TOWNS];
            if (t >= MOST_TOWNS) {
                return NONE;
            }
            cells[TOWNS] = t + 1;
            return t;
        }

        /** Lays a road; answers false, and changes nothing, if there can't be such a road. */
        boolean join(int a, int b, int length) {
            if (!canJoin(a, b, length)) {
                return false;
            }
            setRoad(a, b, length);
            return true;
        }

        /** Tears a road up and answers its length; NONE if there is none. */
        int cut(int a, int b) {
            int length = roadLength(a, b);
            if (length != NONE) {
                setRoad(a, b, NONE);
            }
            return length;
        }

        private void setRoad(int a, int b, int length) {
            if (isTown(a) && isTown(b)) {
                cells[ROADS + a * MOST_TOWNS + b] = length;
                cells[ROADS + b * MOST_TOWNS + a] = length;
            }
        }

        /** Takes a report down: 1 if what counts became different, 0 if not, NONE if it can't be one. */
        int note(int t, int trait, int year, boolean had) {
            if (!isTown(t) || !isTrait(trait) || !isYear(year)) {
                return NONE;
            }
            int cell = (had ? HAD : LACKED) + t * TRAITS + trait;
            int old = cells[cell];
            boolean counts = old == NONE || (had ? year < old : year > old);
            if (counts) {
                cells[cell] = year;
            }
            return counts ? 1 : 0;
        }

        /** Forgets the reports: 1 if there were any, 0 if not, NONE if there is no such town or trait. */
        int drop(int t, int trait) {
            if (!isTown(t) || !isTrait(trait)) {
                return NONE;
            }
            boolean any = isReported(t, trait);
            cells[HAD + t * TRAITS + trait] = NONE;
            cells[LACKED + t * TRAITS + trait] = NONE;
            return any ? 1 : 0;
        }
    }

    /** The remembered states, in a ring, so that the oldest one makes room without moving the others. */
    private static final class Past {
        private static final int MOST_STATES = 14;

        private final int[][] states;
        private int oldest;
        private int count;

        Past() {
            states = new int[MOST_STATES][Land.CELLS];
            oldest = 0;
            count = 0;
        }

        boolean isEmpty() {
            return count == 0;
        }

        void clear() {
            count = 0;
        }

        void remember(Land land) {
            land.writeTo(states[(oldest + count) % MOST_STATES]);
            if (count < MOST_STATES) {
                count++;
            } else {
                oldest = (oldest + 1) % MOST_STATES;
            }
        }

        /** Puts the last remembered state into the land; answers how many are left. */
        int takeBack(Land land) {
            if (count > 0) {
                count--;
                land.readFrom(states[(oldest + count) % MOST_STATES]);
            }
            return count;
        }
    }

    /** The text buffer, and its reading as reports. */
    private static final class ReportText {
        private static final int MOST_SIGNS = 100;
        private static final int YEAR_OFFSET = 4;
        // What a reading waits for; from MORE_DIGITS on, a report is whole.
        private static final int TOWN = 0;
        private static final int HAD_OR_NOT = 1;
        private static final int TRAIT = 2;
        private static final int COLON = 3;
        private static final int YEAR = 4;
        private static final int MORE_DIGITS = 5;
        private static final int LAST_DIGIT = 6;
        private static final int SEMICOLON = 7;

        private final char[] signs;
        private int length;

        ReportText() {
            signs = new char[MOST_SIGNS];
            length = 0;
        }

        boolean isFull() {
            return length >= MOST_SIGNS;
        }

        int add(int sign) {
            if (length < MOST_SIGNS) {
                signs[length] = (char) sign;
                length++;
            }
            return length;
        }

        int empty() {
            int before = length;
            length = 0;
            return before;
        }

        int firstError() {
            int awaited = TOWN;
            for (int i = 0; i < length; i++) {
                awaited = awaitedBehind(awaited, signAt(i));
                if (awaited == NONE) {
                    return i;
                }
            }
            return awaited < MORE_DIGITS ? length : NONE;
        }

        /** What is awaited behind a sign; NONE if the sign is not allowed where that was awaited. */
        private static int awaitedBehind(int awaited, int sign) {
            boolean digit = sign >= '0' && sign <= '9';
            switch (awaited) {
                case TOWN:
                    return digit ? HAD_OR_NOT : NONE;
                case HAD_OR_NOT:
                    return sign == '+' || sign == '-' ? TRAIT : NONE;
                case TRAIT:
                    return digit && isTrait(sign - '0') ? COLON : NONE;
                case COLON:
                    return sign == ':' ? YEAR : NONE;
                case YEAR:
                    return sign == '0' ? SEMICOLON : digit ? MORE_DIGITS : NONE;
                case MORE_DIGITS:
                    return digit ? LAST_DIGIT : sign == ';' ? TOWN : NONE;
                case LAST_DIGIT:
                    return digit ? SEMICOLON : sign == ';' ? TOWN : NONE;
                default:
                    return sign == ';' ? TOWN : NONE;
            }
        }

        /** Takes the reports of a text without error down; answers how many are about towns that are not there. */
        int noteIn(Land land) {
            int left = 0;
            int start = 0;
            int year = 0;
            for (int i = 0; i <= length; i++) {
                int sign = signAt(i);
                if (sign == ';') {
                    int trait = signAt(start + 2) - '0';
                    if (land.note(signAt(start) - '0', trait, year, signAt(start + 1) == '+') == NONE) {
                        left++;
                    }
                    start = i + 1;
                    year = 0;
                } else if (i >= start + YEAR_OFFSET) {
                    year = year * 10 + sign - '0';
                }
            }
            return left;
        }

        /** A sign of the text; behind its end a semicolon, so that the last report ends as the others do. */
        private int signAt(int i) {
            return i >= 0 && i < length && i < MOST_SIGNS ? signs[i] : ';';
        }
    }

    /**
     * The least histories of a trait. A set of inventions explains what its towns explain alone, together: a town has
     * the trait as early as the best of them brings it there. So each town is looked at alone, and then each set.
     */
    private static final class Histories {
        /** Later than every year: since then a town has what it can't have by the last one. */
        private static final int NEVER = LAST_YEAR + 1;

        private final int[] from;
        private final int[] to;
        private final int[] lengths;
        private final int[] earliest;
        private final int[] latest;
        private final int[] years;
        private final int[] explained;
        private final int[] together;
        private int towns;
        private int roads;
        private int known;
        private int fewest;
        private int origins;
        private int always;
        private int sometimes;
        private int leastSets;

        Histories() {
            from = new int[MOST_ROADS];
            to = new int[MOST_ROADS];
            lengths = new int[MOST_ROADS];
            earliest = new int[MOST_TOWNS];
            latest = new int[MOST_TOWNS];
            years = new int[MOST_TOWNS];
            explained = new int[MOST_TOWNS];
            together = new int[1 << MOST_TOWNS];
        }

        int allInventions(Land land) {
            int sum = 0;
            for (int trait = 0; trait < TRAITS; trait++) {
                // A trait without a history answers NONE, and counts for nothing.
                sum += Math.max(study(land, trait), 0);
            }
            return sum;
        }

        int inventedTraits(Land land) {
            int count = 0;
            for (int trait = 0; trait < TRAITS; trait++) {
                if (study(land, trait) > 0) {
                    count++;
                }
            }
            return count;
        }

        /**
         * Finds the least histories of a trait, and since when the towns have it from its origins; answers the
         * inventions of a least history, NONE if there is none.
         */
        int study(Land land, int trait) {
            towns = Math.min(land.townCount(), MOST_TOWNS);
            fewest = NONE;
            origins = 0;
            takeRoads(land);
            if (takeReports(land, trait)) {
                explainAlone();
                weighSets();
            }
            inventIn(origins);
            spread();
            return fewest;
        }

        /** Reads what is reported of a trait; answers false if some reports contradict one another. */
        private boolean takeReports(Land land, int trait) {
            boolean consistent = true;
            known = 0;
            for (int t = 0; t < towns; t++) {
                earliest[t] = land.reportedYear(t, trait, false) + 1;
                latest[t] = land.reportedYear(t, trait, true);
                if (latest[t] != NONE) {
                    known |= 1 << t;
                    consistent = consistent && earliest[t] <= latest[t];
                }
            }
            return consistent;
        }

        private void takeRoads(Land land) {
            roads = 0;
            for (int a = 0; a < towns; a++) {
                for (int b = a + 1; b < towns; b++) {
                    int length = land.roadLength(a, b);
                    if (length != NONE && roads < MOST_ROADS) {
                        from[roads] = a;
                        to[roads] = b;
                        lengths[roads] = length;
                        roads++;
                    }
                }
            }
        }

        private void explainAlone() {
            for (int t = 0; t < towns && known != 0; t++) {
                inventIn(1 << t);
                spread();
                explained[t] = knownInTime();
            }
        }

        private void weighSets() {
            fewest = towns + 1;
            together[0] = 0;
            weigh(0);
            for (int t = 0; t < towns && known != 0; t++) {
                int bit = 1 << t;
                for (int set = 0; set < bit; set++) {
                    together[bit + set] = together[set] | explained[t];
                    weigh(bit + set);
                }
            }
        }

        /** Takes a set into account; the sets come by their numbers, so the first of several is the smallest. */
        private void weigh(int set) {
            if (together[set] != known) {
                return;
            }
            int size = Integer.bitCount(set);
            if (size < fewest) {
                fewest = size;
                origins = set;
                always = set;
                sometimes = set;
                leastSets = 1;
            } else if (size == fewest) {
                always &= set;
                sometimes |= set;
                leastSets++;
            }
        }

        private void inventIn(int set) {
            for (int t = 0; t < towns; t++) {
                years[t] = (set >> t & 1) == 1 ? earliest[t] : NEVER;
            }
        }

        /** Passes the trait on along all roads. The earliest way visits no town twice, so the rounds suffice. */
        private void spread() {
            boolean changed = true;
            for (int round = 0; round < towns && changed; round++) {
                changed = false;
                for (int i = 0; i < roads; i++) {
                    boolean there = passOn(from[i], to[i], lengths[i]);
                    boolean back = passOn(to[i], from[i], lengths[i]);
                    changed = changed || there || back;
                }
            }
        }

        private boolean passOn(int a, int b, int length) {
            int year = years[a] + length;
            if (year < earliest[b]) {
                year = earliest[b];
            }
            if (year >= years[b]) {
                return false;
            }
            years[b] = year;
            return true;
        }

        private int knownInTime() {
            int inTime = 0;
            for (int t = 0; t < towns; t++) {
                if (years[t] <= latest[t]) {
                    inTime |= 1 << t;
                }
            }
            return inTime;
        }

        int sinceWhen(Land land, int t, int trait) {
            study(land, trait);
            return t >= 0 && t < towns && years[t] < NEVER ? years[t] : NONE;
        }

        /** The town before which k others have the trait, from its origins alone. */
        int townInOrder(Land land, int trait, int k) {
            study(land, trait);
            for (int t = 0; t < towns; t++) {
                if (years[t] < NEVER && townsBefore(t) == k) {
                    return t;
                }
            }
            return NONE;
        }

        private int townsBefore(int t) {
            int count = 0;
            for (int u = 0; u < towns; u++) {
                if (years[u] < years[t] || years[u] == years[t] && u < t) {
                    count++;
                }
            }
            return count;
        }

        boolean canHavePassed(Land land, int a, int b, int trait) {
            int length = land.roadLength(a, b);
            if (length == NONE || study(land, trait) == NONE || (known >> b & 1) == 0) {
                return false;
            }
            int allowed = earliest[b];
            // No road brings it to b before the year NEVER then, so what reaches a does so without b.
            earliest[b] = NEVER;
            for (int set = 0; set < 1 << towns; set++) {
                boolean least = together[set] == known && Integer.bitCount(set) == fewest;
                if (least && (set >> b & 1) == 0 && explainsByRoad(set, a, b, length, allowed)) {
                    return true;
                }
            }
            return false;
        }

        /** Whether inventions in the set explain all reports if b has the trait from a alone, not before a year. */
        private boolean explainsByRoad(int set, int a, int b, int length, int allowed) {
            inventIn(set);
            spread();
            int year = years[a] + length;
            if (year < allowed) {
                year = allowed;
            }
            if (year > latest[b]) {
                return false;
            }
            years[b] = year;
            spread();
            return knownInTime() == known;
        }
    }

    /** A copy of the state, on which is tried what must not change the state itself. */
    private static final class Rehearsal {
        private final Land copy;
        private final Histories histories;

        Rehearsal() {
            copy = new Land();
            histories = new Histories();
        }

        void begin(Land present) {
            copy.takeOver(present);
        }

        int inventionsWithRoad(int a, int b, int length) {
            copy.join(a, b, length);
            return histories.allInventions(copy);
        }

        int newRoad(int length) {
            int best = NONE;
            int least = 0;
            for (int a = 0; a < copy.townCount(); a++) {
                for (int b = a + 1; b < copy.townCount(); b++) {
                    if (copy.roadLength(a, b) == NONE && copy.join(a, b, length)) {
                        int needed = histories.allInventions(copy);
                        copy.cut(a, b);
                        if (best == NONE || needed < least) {
                            best = 10 * a + b;
                            least = needed;
                        }
                    }
                }
            }
            return best;
        }

        int costliestReport() {
            int costliest = NONE;
            int most = 0;
            for (int t = 0; t < copy.townCount(); t++) {
                for (int trait = 0; trait < TRAITS; trait++) {
                    int cost = copy.isReported(t, trait) ? costOfReport(t, trait) : 0;
                    if (cost > most) {
                        costliest = 10 * t + trait;
                        most = cost;
                    }
                }
            }
            return costliest;
        }

        /** How many inventions less there are without what is reported; the other traits need as many as before. */
        private int costOfReport(int t, int trait) {
            int had = copy.reportedYear(t, trait, true);
            int lacked = copy.reportedYear(t, trait, false);
            int before = Math.max(histories.study(copy, trait), 0);
            copy.drop(t, trait);
            int behind = Math.max(histories.study(copy, trait), 0);
            copy.note(t, trait, had, true);
            copy.note(t, trait, lacked, false);
            return before - behind;
        }

        /** Carries a command of a script out; answers false if it fails. */
        boolean obeys(int group) {
            int a = group / 10_000 % 10;
            int b = group / 1_000 % 10;
            int rest = group % 1_000;
            switch (group / 100_000) {
                case 1:
                    return a == 0 && b == 0 && rest == 0 && copy.addTown() != NONE;
                case 2:
                    return copy.join(a, b, rest);
                case 3:
                    return rest == 0 && copy.cut(a, b) != NONE;
                case 4:
                    return copy.note(a, b, rest, true) != NONE;
                case 5:
                    return copy.note(a, b, rest, false) != NONE;
                case 6:
                    return rest == 0 && copy.drop(a, b) != NONE;
                case 7:
                    return b == 0 && rest <= 99 && isTrait(a) && isUpTo(histories.study(copy, a), rest);
                case 8:
                    return a == 0 && b == 0 && rest <= 99 && histories.allInventions(copy) <= rest;
                case 9:
                    return copy.isTown(a) && isTrait(b) && isUpTo(histories.sinceWhen(copy, a, b), rest);
                default:
                    return false;
            }
        }

        private static boolean isUpTo(int answer, int most) {
            return answer != NONE && answer <= most;
        }

        /** A turn of a simulation; what can't be done changes nothing. */
        void turn(int r) {
            int n = copy.townCount() > 0 ? copy.townCount() : 1;
            int a = r / 16 % n;
            int b = r / 256 % n;
            int kind = r % 16;
            if (kind == 0) {
                copy.addTown();
            } else if (kind <= 4) {
                copy.join(a, b, 1 + r / 4096 % 60);
            } else if (kind == 5) {
                copy.cut(a, b);
            } else if (kind <= 12) {
                copy.note(a, r / 64 % 6, r / 512 % 1000, true);
            } else {
                copy.note(a, r / 64 % 6, r / 512 % 200, false);
            }
        }

        int summary() {
            return 1000 * histories.allInventions(copy) + 100 * copy.contradictions() + copy.roadCount();
        }
    }
}
