import java.util.Random;

/**
 * The Terms of the document word for word, in lands small enough to write every history down: each town has the trait
 * from one of a few years on, or not at all, each set of these towns is tried as the inventions, and what is no history
 * is left out. Promises 16 to 21.
 */
public final class LiteralTest {
    private static final int TOWNS = 4;
    private static final int LAST = 8;
    private static final int TRAIT = 3;

    private final int[][] road = new int[TOWNS][TOWNS];
    private final int[] had = new int[TOWNS];
    private final int[] lacked = new int[TOWNS];
    private final int[] since = new int[TOWNS];
    private int fewest = Integer.MAX_VALUE;
    private final boolean[] least = new boolean[1 << TOWNS];
    private final int[][] earliest = new int[1 << TOWNS][TOWNS];
    private final boolean[][][] came = new boolean[1 << TOWNS][TOWNS][TOWNS];

    public static void main(String[] args) {
        Random draw = new Random(20);
        int lands = args.length > 0 ? Integer.parseInt(args[0]) : 700;
        for (int i = 0; i < lands; i++) {
            new LiteralTest().compare(i, draw);
        }
        Due.end();
    }

    private void compare(int number, Random draw) {
        PassedTraits x = drawLand(draw);
        boolean contradicted = x.about(3) > 0;
        for (int[] row : earliest) {
            java.util.Arrays.fill(row, LAST + 1);
        }
        if (!contradicted) {
            assign(0);
        }
        int origins = -1;
        int all = -1;
        int some = 0;
        int sets = 0;
        for (int set = (1 << TOWNS) - 1; set >= 0; set--) {
            if (least[set] && Integer.bitCount(set) == fewest) {
                origins = set;
                all &= set;
                some |= set;
                sets++;
            }
        }
        String land = "land " + number + ": ";
        Due.equal(land + "inventions", contradicted ? -1 : fewest, x.inventions(TRAIT));
        Due.equal(land + "choices", contradicted ? -1 : sets, x.choices(TRAIT));
        Due.equal(land + "invented 0", origins, x.invented(TRAIT, 0));
        Due.equal(land + "invented 1", all, x.invented(TRAIT, 1));
        Due.equal(land + "invented 2", contradicted ? -1 : some, x.invented(TRAIT, 2));
        for (int t = 0; t < TOWNS; t++) {
            int year = x.since(t, TRAIT);
            int due = origins == -1 ? LAST + 1 : earliest[origins][t];
            Due.equal(land + "since " + t, due, year == -1 || year > LAST ? LAST + 1 : year);
            for (int u = 0; u < TOWNS; u++) {
                Due.equal(land + "passed " + u + " " + t, cameInSome(u, t) ? 1 : 0, x.passed(u, t, TRAIT));
            }
        }
    }

    private boolean cameInSome(int a, int b) {
        for (int set = 0; set < 1 << TOWNS; set++) {
            if (least[set] && Integer.bitCount(set) == fewest && came[set][a][b]) {
                return true;
            }
        }
        return false;
    }

    private PassedTraits drawLand(Random draw) {
        PassedTraits x = Build.towns(TOWNS);
        for (int a = 0; a < TOWNS; a++) {
            for (int b = a + 1; b < TOWNS; b++) {
                if (draw.nextInt(3) > 0) {
                    int length = 1 + draw.nextInt(3);
                    road[a][b] = length;
                    road[b][a] = length;
                    x.lay(a, b, length);
                }
            }
        }
        for (int t = 0; t < TOWNS; t++) {
            lacked[t] = draw.nextInt(3) == 0 ? draw.nextInt(5) : -1;
            had[t] = draw.nextInt(3) > 0 ? draw.nextInt(LAST - 1) : -1;
            if (lacked[t] != -1) {
                x.see(t, TRAIT, lacked[t], false);
            }
            if (had[t] != -1) {
                x.see(t, TRAIT, had[t], true);
            }
        }
        return x;
    }

    /** Gives the towns from t on each year, and -1 for not having it. */
    private void assign(int t) {
        if (t == TOWNS) {
            for (int set = 0; set < 1 << TOWNS; set++) {
                if (isHistory(set)) {
                    takeIntoAccount(set);
                }
            }
            return;
        }
        for (int year = -1; year <= LAST; year++) {
            boolean lackedThen = year != -1 && year <= lacked[t];
            boolean tooLate = had[t] != -1 && (year == -1 || year > had[t]);
            if (!lackedThen && !tooLate) {
                since[t] = year;
                assign(t + 1);
            }
        }
    }

    private boolean isHistory(int set) {
        for (int t = 0; t < TOWNS; t++) {
            boolean invented = (set & 1 << t) != 0;
            if (invented && since[t] == -1) {
                return false;
            }
            if (since[t] != -1 && !invented && !hasFeeder(t)) {
                return false;
            }
        }
        return true;
    }

    private boolean hasFeeder(int t) {
        for (int u = 0; u < TOWNS; u++) {
            if (feeds(u, t)) {
                return true;
            }
        }
        return false;
    }

    private boolean feeds(int u, int t) {
        return road[u][t] > 0 && since[u] != -1 && since[u] + road[u][t] <= since[t];
    }

    private void takeIntoAccount(int set) {
        least[set] = true;
        fewest = Math.min(fewest, Integer.bitCount(set));
        for (int t = 0; t < TOWNS; t++) {
            if (since[t] != -1) {
                earliest[set][t] = Math.min(earliest[set][t], since[t]);
            }
            for (int u = 0; u < TOWNS; u++) {
                boolean knownThere = had[t] != -1 && since[t] != -1 && (set & 1 << t) == 0;
                came[set][u][t] = came[set][u][t] || knownThere && feeds(u, t);
            }
        }
    }
}
