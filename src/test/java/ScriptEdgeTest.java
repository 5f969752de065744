import java.math.BigInteger;

/** The boundary cases of promises 25 and 26: each command with all its digits, and simulations that wrap around. */
public final class ScriptEdgeTest {
    private static final int NONE = PassedTraits.NONE;
    private static final long FACTOR = 6364136223846793005L;
    private static final long ADDEND = 1442695040888963407L;

    public static void main(String[] args) {
        eachGroup(Scenes.NOTHING);
        eachGroup(Scenes.FEW);
        eachGroup(Scenes.FULL);
        zerosAhead();
        firstThatFails();
        commandsBuildOnOneAnother();
        foundsUpToTen();
        fullTownsAndRoads();
        yearsAndTraits();
        contradictionInAScript();
        limitsOfConditions();
        scriptsChangeNothing();
        eachTurnAlone();
        largestAndSmallestTurn();
        turnsWithoutTowns();
        wrapsAround();
        foundInATurn();
        leftOut();
        simulationsChangeNothing();
        Due.end();
    }

    // ---- runScript

    /** All numbers of six digits, each run alone: it succeeds just if the document says so. */
    private static void eachGroup(Scene scene) {
        PassedTraits asked = scene.make();
        int towns = asked.about(0);
        int all = asked.about(5);
        int[] inventions = new int[10];
        int[][] since = new int[10][10];
        boolean[][] roads = new boolean[10][10];
        boolean[] full = new boolean[10];
        for (int a = 0; a < 10; a++) {
            inventions[a] = a < 6 ? asked.inventions(a) : NONE;
            full[a] = a < towns && asked.neighbor(a, 2) != NONE;
            for (int b = 0; b < 10; b++) {
                since[a][b] = a < towns && b < 6 ? asked.since(a, b) : NONE;
                roads[a][b] = a < towns && b < towns && asked.road(a, b) != NONE;
            }
        }
        PassedTraits x = scene.make();
        for (int group = 0; group < 1_000_000; group++) {
            if (group % 300 == 0) {
                x = scene.make();
            }
            int a = group / 10_000 % 10;
            int b = group / 1_000 % 10;
            int last3 = group % 1_000;
            int last2 = group % 100;
            boolean zero4 = group / 100 % 10 == 0;
            boolean townAndTrait = a < towns && b < 6;
            boolean due = switch (group / 100_000) {
                case 1 -> group == 100_000 && towns < 10;
                case 2 -> a < towns && b < towns && a != b && zero4 && last2 > 0
                        && (roads[a][b] || !full[a] && !full[b]);
                case 3 -> roads[a][b] && last3 == 0;
                case 4, 5 -> townAndTrait;
                case 6 -> townAndTrait && last3 == 0;
                case 7 -> b == 0 && zero4 && inventions[a] != NONE && inventions[a] <= last2;
                case 8 -> a == 0 && b == 0 && zero4 && all <= last2;
                case 9 -> townAndTrait && since[a][b] != NONE && since[a][b] <= last3;
                default -> false;
            };
            int got = x.runScript(1, group);
            if (got != (due ? NONE : 0)) {
                Due.tell("promise 25: the group " + group + " answered " + got);
            }
        }
    }

    private static void runs(Scene scene, int due, String... groups) {
        long script = Long.parseLong(String.join("", groups));
        scene.answers("promise 25: the script " + String.join(" ", groups), due, x -> x.runScript(groups.length, script));
    }

    /** "(with zeros before it, if it has fewer digits)". */
    private static void zerosAhead() {
        for (int n = 1; n <= 3; n++) {
            int count = n;
            Scenes.FEW.tells("promise 25: zeros alone fail", 0, x -> x.runScript(count, 0));
            Scenes.FEW.tells("promise 25: zeros ahead fail", n == 1 ? NONE : 0, x -> x.runScript(count, 100_000));
            Scenes.FEW.tells("promise 25: a digit less", 0, x -> x.runScript(count, 10_000));
        }
        runs(Scenes.FEW, 0, "000000", "100000");
        runs(Scenes.FEW, 0, "000000", "000000", "100000");
        runs(Scenes.FEW, 1, "100000", "000000");
        runs(Scenes.FEW, 2, "100000", "100000", "000000");
        Scenes.FEW.tells("promise 25: 7 digits are 0 and 6", 0, x -> x.runScript(2, 1_100_000));
    }

    /** "Returns the index, from 0, of the first command that fails; NONE if all succeed." */
    private static void firstThatFails() {
        String good = "100000";
        String bad = "999999";
        runs(Scenes.FEW, NONE, good);
        runs(Scenes.FEW, 0, bad);
        runs(Scenes.FEW, NONE, good, good);
        runs(Scenes.FEW, 0, bad, good);
        runs(Scenes.FEW, 1, good, bad);
        runs(Scenes.FEW, 0, bad, bad);
        runs(Scenes.FEW, NONE, good, good, good);
        runs(Scenes.FEW, 0, bad, good, good);
        runs(Scenes.FEW, 1, good, bad, good);
        runs(Scenes.FEW, 2, good, good, bad);
        runs(Scenes.FEW, 0, bad, good, bad);
        runs(Scenes.FEW, 0, bad, bad, good);
        runs(Scenes.FEW, 1, good, bad, bad);
        runs(Scenes.FEW, 0, bad, bad, bad);
    }

    private static void commandsBuildOnOneAnother() {
        runs(Scenes.NOTHING, NONE, "100000", "100000", "201099");
        runs(Scenes.NOTHING, 1, "100000", "201099", "100000");
        runs(Scenes.NOTHING, NONE, "100000", "400000", "700001");
        runs(Scenes.NOTHING, 2, "100000", "400000", "700000");
        runs(Scenes.NOTHING, 2, "100000", "100000", "301000");
        runs(Scenes.FEW, NONE, "301000", "201001");
        runs(Scenes.FEW, 1, "301000", "301000");
        runs(Scenes.FEW, NONE, "625000", "750000", "800002");
    }

    /** "1 0 0 0 0 0: found()": it fails where found() would throw. */
    private static void foundsUpToTen() {
        for (int towns = 0; towns <= 10; towns++) {
            int before = towns;
            Scene scene = new Scene(towns + " towns", () -> Build.towns(before));
            for (int n = 1; n <= 3; n++) {
                String[] groups = new String[n];
                java.util.Arrays.fill(groups, "100000");
                runs(scene, before + n <= 10 ? NONE : 10 - before, groups);
            }
        }
    }

    private static void fullTownsAndRoads() {
        runs(Scenes.FULL, 0, "202005");
        runs(Scenes.FULL, NONE, "201001", "209099", "205050");
        runs(Scenes.FULL, NONE, "301000", "201005");
        runs(Scenes.FULL, 1, "301000", "202005");
        runs(Scenes.FULL, NONE, "301000", "323000", "202005");
        runs(Scenes.FULL, 0, "200005");
        runs(Scenes.FULL, 0, "100000");
    }

    private static void yearsAndTraits() {
        runs(Scenes.ONE, NONE, "400000", "405999", "505000");
        runs(Scenes.ONE, 0, "406000");
        runs(Scenes.ONE, 0, "506000");
        runs(Scenes.ONE, 0, "606000");
        runs(Scenes.ONE, 0, "410000");
        runs(Scenes.ONE, NONE, "500998", "400999", "900999");
        runs(Scenes.ONE, 2, "500998", "400999", "900998");
        runs(Scenes.ONE, NONE, "400000", "900000");
        runs(Scenes.ONE, 0, "900999");
    }

    /** A contradiction is no failure; the conditions fail then, but for about(5). */
    private static void contradictionInAScript() {
        runs(Scenes.ONE, 2, "500999", "400999", "700099");
        runs(Scenes.ONE, 2, "500999", "400999", "900999");
        runs(Scenes.ONE, NONE, "500999", "400999", "800000");
        runs(Scenes.ONE, NONE, "500999", "400999", "600000");
    }

    private static void limitsOfConditions() {
        Scene ten = new Scene("sixty inventions", () -> {
            PassedTraits x = Build.towns(10);
            for (int t = 0; t < 10; t++) {
                for (int trait = 0; trait < 6; trait++) {
                    x.see(t, trait, 999, true);
                }
            }
            return x;
        });
        runs(ten, 0, "700009");
        runs(ten, NONE, "700010");
        runs(ten, 0, "750009");
        runs(ten, NONE, "750099");
        runs(ten, 0, "760099");
        runs(ten, 0, "800059");
        runs(ten, NONE, "800060");
        runs(ten, NONE, "800099");
        runs(ten, NONE, "600000", "700009", "800059");
        runs(Scenes.NOTHING, NONE, "700000", "750000", "800000");
        runs(Scenes.NOTHING, 0, "900999");
    }

    /** "Runs a script on a copy of the state." */
    private static void scriptsChangeNothing() {
        long[] scripts = {100_000_100_000_100_000L, 301_000_400_000_625_000L, 203_099_500_999_635_000L,
            800_099_900_999_700_099L, 999_999_999_999_999_999L, 0};
        for (Scene scene : Scenes.ALL) {
            for (long script : scripts) {
                scene.changesNothing("promise 25: the script " + script, x -> x.runScript(3, script));
            }
        }
    }

    // ---- simulate

    /** The seed of which the first turn has this r, with these lower bits of x. */
    private static long seedOf(int r, long lowerBits) {
        long x = ((long) r << 33) | lowerBits & 0x1_FFFF_FFFFL;
        BigInteger word = BigInteger.ONE.shiftLeft(64);
        BigInteger inverse = BigInteger.valueOf(FACTOR).modInverse(word);
        return BigInteger.valueOf(x).subtract(BigInteger.valueOf(ADDEND)).multiply(inverse).mod(word).longValue();
    }

    /** The numbers r of some turns, computed without a number that overflows. */
    private static int[] turnsOf(long seed, int m) {
        BigInteger word = BigInteger.ONE.shiftLeft(64);
        BigInteger x = BigInteger.valueOf(seed).mod(word);
        int[] turns = new int[m];
        for (int i = 0; i < m; i++) {
            x = x.multiply(BigInteger.valueOf(FACTOR)).add(BigInteger.valueOf(ADDEND)).mod(word);
            turns[i] = x.shiftRight(33).intValueExact();
        }
        return turns;
    }

    private static void turn(PassedTraits x, int r) {
        int n = Math.max(1, x.about(0));
        int a = r / 16 % n;
        int b = r / 256 % n;
        int kind = r % 16;
        if (kind == 0) {
            Due.outcome(x::found);
        } else if (kind < 5) {
            Due.outcome(() -> x.lay(a, b, 1 + r / 4096 % 60));
        } else if (kind == 5) {
            Due.outcome(() -> x.tear(a, b));
        } else if (kind < 13) {
            Due.outcome(() -> x.see(a, r / 64 % 6, r / 512 % 1000, true));
        } else {
            Due.outcome(() -> x.see(a, r / 64 % 6, r / 512 % 200, false));
        }
    }

    private static int summary(PassedTraits x) {
        return 1000 * x.about(5) + 100 * x.about(3) + x.about(1);
    }

    private static void played(Scene scene, long seed, int m) {
        PassedTraits x = scene.make();
        for (int r : turnsOf(seed, m)) {
            turn(x, r);
        }
        scene.answers("promise 26: simulate(" + seed + ", " + m + ")", summary(x), y -> y.simulate(seed, m));
    }

    /** "By r % 16: 0: .. 1 to 4: .. 5: .. 6 to 12: .. 13 to 15: ..", each of them in a turn alone. */
    private static void eachTurnAlone() {
        for (int kind = 0; kind < 16; kind++) {
            for (int i = 0; i < 400; i++) {
                int r = kind + 16 * (i % 4) + 256 * (i / 4 % 10) + 4096 * (i * 7919 % 500_000);
                for (Scene scene : Scenes.ALL) {
                    played(scene, seedOf(r, i * 1_000_003L), 1);
                }
            }
        }
        Scene pair = new Scene("two towns", () -> Build.row(2, 60));
        PassedTraits before = pair.make();
        int[] due = {0, 0, 0, 0, 0, -1, 1000, 1000, 1000, 1000, 1000, 1000, 1000, 0, 0, 0};
        for (int kind = 0; kind < 16; kind++) {
            // a is 0 and b is 1 of two towns.
            long seed = seedOf(256 + kind, 0);
            pair.tells("promise 26: a turn of kind " + kind, summary(before) + due[kind], x -> x.simulate(seed, 1));
        }
    }

    /** r from 0 to 2 to the power of 31, less 1; it is never negative. */
    private static void largestAndSmallestTurn() {
        int[] numbers = {0, 1, 15, 16, 255, 256, 4095, 4096, Integer.MAX_VALUE - 16, Integer.MAX_VALUE - 15,
            Integer.MAX_VALUE - 1, Integer.MAX_VALUE};
        long[] lower = {0, 1, 0x1_FFFF_FFFFL};
        for (int r : numbers) {
            for (long bits : lower) {
                long seed = seedOf(r, bits);
                Due.equal("the seed of a number", r, turnsOf(seed, 1)[0]);
                for (Scene scene : Scenes.ALL) {
                    played(scene, seed, 1);
                    played(scene, seed, 99);
                }
            }
        }
    }

    /** "n is the number of towns, or 1 if there is none": what needs a town is left out then. */
    private static void turnsWithoutTowns() {
        for (int kind = 0; kind < 16; kind++) {
            long seed = seedOf(kind + 16 * 777, 5);
            Scenes.NOTHING.tells("promise 26: kind " + kind + " without towns", 0, x -> x.simulate(seed, 1));
        }
        for (long seed = -50; seed < 50; seed++) {
            played(Scenes.NOTHING, seed, 99);
        }
    }

    /** "x is replaced by x * 6364136223846793005L + 1442695040888963407L (with long overflow)"; "seed: any long". */
    private static void wrapsAround() {
        long[] seeds = {Long.MIN_VALUE, Long.MIN_VALUE + 1, Integer.MIN_VALUE, -2, -1, 0, 1, 2, Integer.MAX_VALUE, 1L << 31,
            1L << 32, 1L << 33, 1L << 62, Long.MAX_VALUE - 1, Long.MAX_VALUE, FACTOR, ADDEND, -ADDEND};
        for (long seed : seeds) {
            for (Scene scene : Scenes.ALL) {
                int[] turns = {1, 2, 3, 10, 50, 98, 99};
                for (int m : turns) {
                    played(scene, seed, m);
                }
            }
        }
    }

    /** A town that was founded takes part in the next turns. */
    private static void foundInATurn() {
        int foundFirst = 0;
        for (long bits = 0; bits < 4000; bits++) {
            long seed = seedOf(16 * 5, bits * 2_147_483L);
            int next = turnsOf(seed, 2)[1];
            if (next % 16 >= 6 && next % 16 <= 12) {
                foundFirst++;
                Scenes.NOTHING.answers("promise 26: founded, and then seen", 1000, x -> x.simulate(seed, 2));
            }
            played(Scenes.ONE, seed, 2);
        }
        Due.isTrue("some turns see the founded town", foundFirst > 100);
    }

    /** "What would throw an exception is left out": found() with 10 towns, roads without room, from a town to itself. */
    private static void leftOut() {
        Scene bare = new Scene("ten towns", () -> Build.towns(10));
        Scene full = new Scene("fifteen roads", () -> Build.full(1));
        bare.tells("promise 26: an eleventh town", 0, x -> x.simulate(seedOf(0, 9), 1));
        for (int a = 0; a < 10; a++) {
            for (int b = 0; b < 10; b++) {
                int r = numberOf(a, b, 1);
                bare.tells("promise 26: lay(" + a + ", " + b + ")", a == b ? 0 : 1, x -> x.simulate(seedOf(r, 3), 1));
                full.tells("promise 26: lay, full", 15, x -> x.simulate(seedOf(r, 3), 1));
                bare.tells("promise 26: tear, no road", 0, x -> x.simulate(seedOf(numberOf(r / 16 % 10, r / 256 % 10, 5), 3), 1));
            }
        }
    }

    /** A number of this kind for which a is r / 16 % 10 and b is r / 256 % 10. */
    private static int numberOf(int a, int b, int kind) {
        for (int r = kind; r < 1 << 24; r += 16) {
            if (r / 16 % 10 == a && r / 256 % 10 == b) {
                return r;
            }
        }
        return kind;
    }

    /** "Simulates m turns on a copy of the state." */
    private static void simulationsChangeNothing() {
        for (Scene scene : Scenes.ALL) {
            for (long seed = 0; seed < 5; seed++) {
                long from = seed * FACTOR;
                scene.changesNothing("promise 26: simulate(" + from + ", 99)", x -> x.simulate(from, 99));
            }
        }
    }
}
