/** Promises 25 and 26: scripts and simulations. */
public final class ScriptTest {
    private static final Class<IllegalArgumentException> ARGUMENT = IllegalArgumentException.class;

    public static void main(String[] args) {
        arguments();
        actions();
        conditions();
        wrongGroups();
        sequences();
        simulate();
        Due.end();
    }

    private static void arguments() {
        PassedTraits x = Build.towns(2);
        int[] counts = {0, 4, -1, Integer.MIN_VALUE, Integer.MAX_VALUE};
        for (int n : counts) {
            Due.refused("promise 25: n " + n, ARGUMENT, x, () -> x.runScript(n, 0));
        }
        long[] low = {-1, Long.MIN_VALUE};
        for (long script : low) {
            Due.refused("promise 25: script " + script, ARGUMENT, x, () -> x.runScript(1, script));
        }
        long digits = 1;
        for (int n = 1; n <= 3; n++) {
            digits *= 1_000_000L;
            long most = digits;
            int count = n;
            Due.refused("promise 25: a digit too many for " + n, ARGUMENT, x, () -> x.runScript(count, most));
            Due.refused("promise 25: many digits for " + n, ARGUMENT, x, () -> x.runScript(count, Long.MAX_VALUE));
            Due.equal("promise 25: all nines fail at once", 0, x.runScript(n, digits - 1));
            Due.equal("promise 25: all zeros fail at once", 0, x.runScript(n, 0));
        }
    }

    private static void fails(PassedTraits x, String groups, int due) {
        long script = Long.parseLong(groups.replace(" ", ""));
        int n = groups.split(" ").length;
        String before = Look.at(x);
        Due.equal("promise 25: script " + groups, due, x.runScript(n, script));
        Due.isTrue("promise 25: script " + groups + " changed something", before.equals(Look.at(x)));
    }

    private static PassedTraits land() {
        PassedTraits x = Build.row(4, 10);
        x.see(0, 1, 20, true);
        x.see(3, 1, 20, true);
        x.see(2, 5, 7, true);
        x.see(2, 5, 7, false);
        return x;
    }

    private static void actions() {
        PassedTraits x = land();
        fails(x, "100000", -1);
        fails(Build.towns(10), "100000", 0);
        fails(x, "202001", -1);
        fails(x, "202099", -1);
        fails(x, "202000", 0);
        fails(x, "202100", 0);
        fails(x, "201050", -1);
        fails(x, "222050", 0);
        fails(x, "204050", 0);
        fails(x, "240050", 0);
        fails(x, "312000", -1);
        fails(x, "302000", 0);
        fails(x, "314000", 0);
        fails(x, "400000", -1);
        fails(x, "435999", -1);
        fails(x, "436999", 0);
        fails(x, "440000", 0);
        fails(x, "500000", -1);
        fails(x, "535999", -1);
        fails(x, "536999", 0);
        fails(x, "545999", 0);
        fails(x, "601000", -1);
        fails(x, "600000", -1);
        fails(x, "606000", 0);
        fails(x, "641000", 0);
        fails(Build.full(3), "202001", 0);
        Due.equal("promise 25: no action", 10, x.undo());
    }

    private static void conditions() {
        PassedTraits x = land();
        fails(x, "710000", 0);
        fails(x, "710001", -1);
        fails(x, "710099", -1);
        fails(x, "700000", -1);
        fails(x, "750099", 0);
        fails(x, "760099", 0);
        fails(x, "800000", 0);
        fails(x, "800001", -1);
        fails(x, "800099", -1);
        fails(new PassedTraits(), "800000", -1);
        fails(new PassedTraits(), "750000", -1);
        fails(x, "931019", 0);
        fails(x, "931020", -1);
        fails(x, "911000", -1);
        fails(x, "901009", 0);
        fails(x, "901010", -1);
        fails(x, "900999", 0);
        fails(x, "925999", 0);
        fails(x, "906999", 0);
        fails(x, "941999", 0);
    }

    private static void wrongGroups() {
        PassedTraits x = land();
        String[] wrong = {"000000", "000001", "099999", "100001", "100010", "100100", "101000", "110000", "202110",
            "202950", "312001", "312010", "312100", "601001", "601010", "601100", "710100", "710101", "711001", "720199", "718099",
            "800100", "800101", "801001", "810001", "809099"};
        for (String group : wrong) {
            fails(x, group, 0);
        }
    }

    private static void sequences() {
        PassedTraits x = land();
        fails(x, "100000 243009 934999", 2);
        fails(x, "100000 243009 941029", -1);
        fails(x, "100000 243009 941028", 2);
        fails(x, "243009 100000 800099", 0);
        fails(x, "312000 710001 100000", 1);
        fails(x, "312000 710002 322000", 2);
        fails(x, "601000 631000 800000", -1);
        fails(x, "525000 750099 100000", 1);
        fails(x, "625000 425000 750001", -1);
        fails(x, "625000 750000", -1);
        fails(x, "000000 100000", 0);
        fails(x, "100000 000000", 1);
        fails(x, "511001 521001 710001", 2);
        fails(x, "511001 710001 911001", 2);
        fails(x, "511001 710001 911011", -1);
        fails(x, "431010 921000 911010", -1);
        fails(Build.towns(9), "100000 290005 100000", 2);
    }

    private static void simulate() {
        PassedTraits x = land();
        int[] wrong = {0, -1, 100, Integer.MIN_VALUE, Integer.MAX_VALUE};
        for (int m : wrong) {
            Due.refused("promise 26: m " + m, ARGUMENT, x, () -> x.simulate(5, m));
        }
        long[] seeds = {0, 1, -1, 9, 42, Long.MIN_VALUE, Long.MAX_VALUE, 123456789012345L};
        for (long seed : seeds) {
            for (int m = 1; m <= 99; m += 7) {
                String before = Look.at(x);
                int once = x.simulate(seed, m);
                Due.equal("promise 26: the same once more", once, x.simulate(seed, m));
                Due.isTrue("promise 26: nothing is changed", before.equals(Look.at(x)));
                Due.equal("promise 26: seed " + seed + " turns " + m, new Model().simulate(seed, m),
                        new PassedTraits().simulate(seed, m));
            }
        }
        Due.equal("promise 26: no action", 10, x.undo());
        played();
    }

    /** A simulation is the calls that the document tells, so these on an object of its own answer the same. */
    private static void played() {
        for (long seed = 0; seed < 2000; seed++) {
            PassedTraits x = Build.towns(6);
            int simulated = x.simulate(seed, 99);
            long number = seed;
            for (int i = 0; i < 99; i++) {
                number = number * 6364136223846793005L + 1442695040888963407L;
                turn(x, (int) (number >>> 33));
            }
            Due.equal("promise 26: played, seed " + seed, 1000 * x.about(5) + 100 * x.about(3) + x.about(1), simulated);
        }
    }

    private static void turn(PassedTraits x, int r) {
        int n = x.about(0);
        int a = r / 16 % n;
        int b = r / 256 % n;
        int kind = r % 16;
        Due.outcome(() -> {
            if (kind == 0) {
                return x.found();
            } else if (kind < 5) {
                return x.lay(a, b, 1 + r / 4096 % 60);
            } else if (kind == 5) {
                return x.tear(a, b);
            } else if (kind < 13) {
                return x.see(a, r / 64 % 6, r / 512 % 1000, true);
            }
            return x.see(a, r / 64 % 6, r / 512 % 200, false);
        });
    }
}
