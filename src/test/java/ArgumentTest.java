/**
 * The ranges of the arguments, promises 2 to 28: each value just inside and just outside of a range, and the smallest and
 * the largest number that can come in, in the emptiest and in the fullest land. What is refused changes nothing.
 */
public final class ArgumentTest {
    private static final Class<IndexOutOfBoundsException> INDEX = IndexOutOfBoundsException.class;
    private static final Class<IllegalArgumentException> ARGUMENT = IllegalArgumentException.class;
    private static final int LOW = Integer.MIN_VALUE;
    private static final int HIGH = Integer.MAX_VALUE;

    /** A call with one argument left open. */
    private interface With {
        long answer(PassedTraits x, int value);
    }

    private record Open(String call, With with) {
        void refusedIn(Scene scene, Class<? extends RuntimeException> want, int... values) {
            for (int value : values) {
                scene.refuses(call + " with " + value, want, x -> with.answer(x, value));
            }
        }

        void allowedIn(Scene scene, int... values) {
            for (int value : values) {
                scene.allows(call + " with " + value, x -> with.answer(x, value));
            }
        }
    }

    private static final Open[] TOWN = {
        new Open("promise 6: road(., 0)", (x, t) -> x.road(t, 0)),
        new Open("promise 6: road(0, .)", (x, t) -> x.road(0, t)),
        new Open("promise 7: neighbor(., 0)", (x, t) -> x.neighbor(t, 0)),
        new Open("promise 8: report(., 0, true)", (x, t) -> x.report(t, 0, true)),
        new Open("promise 8: report(., 5, false)", (x, t) -> x.report(t, 5, false)),
        new Open("promise 12: see(., 0, 5, true)", (x, t) -> x.see(t, 0, 5, true)),
        new Open("promise 12: see(., 5, 999, false)", (x, t) -> x.see(t, 5, 999, false)),
        new Open("promise 14: forget(., 0)", (x, t) -> x.forget(t, 0)),
        new Open("promise 19: since(., 0)", (x, t) -> x.since(t, 0)),
        new Open("promise 21: passed(., 0, 0)", (x, t) -> x.passed(t, 0, 0)),
        new Open("promise 21: passed(0, ., 0)", (x, t) -> x.passed(0, t, 0)),
    };

    /** These are refused for other reasons too, where the town is there. */
    private static final Open[] TOWN_OF_A_ROAD = {
        new Open("promise 10: lay(., 0, 5)", (x, t) -> x.lay(t, 0, 5)),
        new Open("promise 10: lay(0, ., 5)", (x, t) -> x.lay(0, t, 5)),
        new Open("promise 11: tear(., 0)", (x, t) -> x.tear(t, 0)),
        new Open("promise 11: tear(0, .)", (x, t) -> x.tear(0, t)),
        new Open("promise 22: ifLaid(., 0, 5)", (x, t) -> x.ifLaid(t, 0, 5)),
        new Open("promise 22: ifLaid(0, ., 5)", (x, t) -> x.ifLaid(0, t, 5)),
    };

    private static final Open[] TRAIT_OF_A_TOWN = {
        new Open("promise 8: report(0, ., true)", (x, trait) -> x.report(0, trait, true)),
        new Open("promise 8: report(0, ., false)", (x, trait) -> x.report(0, trait, false)),
        new Open("promise 12: see(0, ., 5, true)", (x, trait) -> x.see(0, trait, 5, true)),
        new Open("promise 12: see(0, ., 5, false)", (x, trait) -> x.see(0, trait, 5, false)),
        new Open("promise 14: forget(0, .)", (x, trait) -> x.forget(0, trait)),
        new Open("promise 19: since(0, .)", (x, trait) -> x.since(0, trait)),
        new Open("promise 21: passed(0, 0, .)", (x, trait) -> x.passed(0, 0, trait)),
    };

    private static final Open[] TRAIT = {
        new Open("promise 16: inventions(.)", (x, trait) -> x.inventions(trait)),
        new Open("promise 17: invented(., 0)", (x, trait) -> x.invented(trait, 0)),
        new Open("promise 17: invented(., 1)", (x, trait) -> x.invented(trait, 1)),
        new Open("promise 17: invented(., 2)", (x, trait) -> x.invented(trait, 2)),
        new Open("promise 18: choices(.)", (x, trait) -> x.choices(trait)),
        new Open("promise 20: reached(., 0)", (x, trait) -> x.reached(trait, 0)),
    };

    private static final Open[] YEAR = {
        new Open("promise 12: see(0, 0, ., true)", (x, year) -> x.see(0, 0, year, true)),
        new Open("promise 12: see(0, 0, ., false)", (x, year) -> x.see(0, 0, year, false)),
    };

    /** In a land of four towns, in a row. */
    private static final Open[] LENGTH = {
        new Open("promise 10: lay(0, 2, .), a new road", (x, length) -> x.lay(0, 2, length)),
        new Open("promise 10: lay(1, 0, .), a road that is there", (x, length) -> x.lay(1, 0, length)),
        new Open("promise 22: ifLaid(0, 2, .), a new road", (x, length) -> x.ifLaid(0, 2, length)),
        new Open("promise 22: ifLaid(1, 0, .), a road that is there", (x, length) -> x.ifLaid(1, 0, length)),
    };

    private static final Open BEST_ROAD = new Open("promise 23: bestRoad(.)", PassedTraits::bestRoad);

    private static final Open[] SLOT = {
        new Open("promise 27: save(.)", PassedTraits::save),
        new Open("promise 28: restore(.)", PassedTraits::restore),
    };

    public static void main(String[] args) {
        signs();
        numbersOfAbout();
        towns();
        counts();
        traits();
        kinds();
        years();
        lengths();
        numbersOfCommands();
        scripts();
        turns();
        seeds();
        slots();
        Due.end();
    }

    /** "c: character code, 0 to 255"; a number that is '0' by its last eight or sixteen bits is none. */
    private static void signs() {
        Open append = new Open("promise 2: append(.)", PassedTraits::append);
        append.allowedIn(Scenes.NOTHING, 0, 1, 48, 127, 128, 254, 255);
        for (Scene scene : Scenes.ALL) {
            append.refusedIn(scene, ARGUMENT, LOW, -65488, -208, -1, 256, 304, 65584, HIGH);
        }
    }

    /** "Throws IllegalArgumentException if what is not 0 to 5". */
    private static void numbersOfAbout() {
        Open about = new Open("promise 5: about(.)", PassedTraits::about);
        for (Scene scene : Scenes.ALL) {
            about.allowedIn(scene, 0, 1, 2, 3, 4, 5);
            about.refusedIn(scene, ARGUMENT, LOW, -1, 6, HIGH);
        }
    }

    /** "IndexOutOfBoundsException means that a town does not exist". */
    private static void towns() {
        Scene[] scenes = {Scenes.NOTHING, Scenes.ONE, Scenes.FEW, Scenes.FULL};
        int[] count = {0, 1, 4, 10};
        for (int i = 0; i < scenes.length; i++) {
            for (Open call : TOWN) {
                call.refusedIn(scenes[i], INDEX, LOW, -1, count[i], 10, HIGH);
                if (count[i] > 0) {
                    call.allowedIn(scenes[i], 0, count[i] - 1);
                }
            }
            for (Open call : TOWN_OF_A_ROAD) {
                call.refusedIn(scenes[i], INDEX, LOW, -1, count[i], 10, HIGH);
            }
        }
        for (Open call : TOWN_OF_A_ROAD) {
            call.allowedIn(Scenes.FEW, 1);
            call.allowedIn(Scenes.FULL, 9);
        }
    }

    /** "Throws IllegalArgumentException if k is negative"; no k is too large. */
    private static void counts() {
        Open[] open = {
            new Open("promise 7: neighbor(0, .)", (x, k) -> x.neighbor(0, k)),
            new Open("promise 20: reached(0, .)", (x, k) -> x.reached(0, k)),
        };
        Scene[] scenes = {Scenes.ONE, Scenes.FEW, Scenes.FULL};
        for (Scene scene : scenes) {
            for (Open call : open) {
                call.refusedIn(scene, ARGUMENT, LOW, -1);
                call.allowedIn(scene, 0, 9, 10, HIGH);
            }
        }
        open[1].refusedIn(Scenes.NOTHING, ARGUMENT, LOW, -1);
        open[1].allowedIn(Scenes.NOTHING, 0, HIGH);
    }

    /** "trait: 0 to 5". */
    private static void traits() {
        for (Scene scene : Scenes.ALL) {
            for (Open call : TRAIT) {
                call.refusedIn(scene, ARGUMENT, LOW, -1, 6, HIGH);
                call.allowedIn(scene, 0, 5);
            }
        }
        Scene[] scenes = {Scenes.ONE, Scenes.FEW, Scenes.FULL};
        for (Scene scene : scenes) {
            for (Open call : TRAIT_OF_A_TOWN) {
                call.refusedIn(scene, ARGUMENT, LOW, -1, 6, HIGH);
                call.allowedIn(scene, 0, 5);
            }
        }
    }

    /** "kind: 0: its origins; 1: ..; 2: ..", also for a trait without a history. */
    private static void kinds() {
        for (int trait = 0; trait <= 5; trait++) {
            int of = trait;
            Open invented = new Open("promise 17: invented(" + of + ", .)", (x, kind) -> x.invented(of, kind));
            for (Scene scene : Scenes.ALL) {
                invented.refusedIn(scene, ARGUMENT, LOW, -1, 3, HIGH);
                invented.allowedIn(scene, 0, 1, 2);
            }
        }
    }

    /** "year: 0 to 999". */
    private static void years() {
        Scene[] scenes = {Scenes.ONE, Scenes.FEW, Scenes.FULL};
        for (Scene scene : scenes) {
            for (Open call : YEAR) {
                call.refusedIn(scene, ARGUMENT, LOW, -1, 1000, HIGH);
                call.allowedIn(scene, 0, 1, 998, 999);
            }
        }
    }

    /** "length: 1 to 99". */
    private static void lengths() {
        for (Open call : LENGTH) {
            call.refusedIn(Scenes.FEW, ARGUMENT, LOW, -1, 0, 100, HIGH);
            call.allowedIn(Scenes.FEW, 1, 2, 98, 99);
        }
        for (Scene scene : Scenes.ALL) {
            BEST_ROAD.refusedIn(scene, ARGUMENT, LOW, -1, 0, 100, HIGH);
            BEST_ROAD.allowedIn(scene, 1, 2, 98, 99);
        }
    }

    /** "n: number of commands, 1 to 3". */
    private static void numbersOfCommands() {
        Open run = new Open("promise 25: runScript(., 0)", (x, n) -> x.runScript(n, 0));
        Open large = new Open("promise 25: runScript(., 999999)", (x, n) -> x.runScript(n, 999_999));
        for (Scene scene : Scenes.ALL) {
            run.refusedIn(scene, ARGUMENT, LOW, -1, 0, 4, HIGH);
            run.allowedIn(scene, 1, 2, 3);
            large.refusedIn(scene, ARGUMENT, LOW, -1, 0, 4, 9, HIGH);
            large.allowedIn(scene, 1, 2, 3);
        }
    }

    /** "a number of at most 6 * n digits (0 or more)". */
    private static void scripts() {
        long[] digits = {1_000_000L, 1_000_000_000_000L, 1_000_000_000_000_000_000L};
        for (Scene scene : Scenes.ALL) {
            for (int n = 1; n <= 3; n++) {
                int count = n;
                long tooMany = digits[n - 1];
                long[] inside = {0, 1, 999_999, tooMany / 10, tooMany - 1};
                long[] outside = {Long.MIN_VALUE, Integer.MIN_VALUE, -100_000, -1, tooMany, tooMany + 1, Long.MAX_VALUE};
                for (long script : inside) {
                    scene.allows("promise 25: runScript(" + n + ", " + script + ")", x -> x.runScript(count, script));
                }
                for (long script : outside) {
                    scene.refuses("promise 25: runScript(" + n + ", " + script + ")", ARGUMENT,
                            x -> x.runScript(count, script));
                }
            }
        }
        // In 32 bits this number would be the script 100000.
        Scenes.FEW.refuses("promise 25: more than 32 bits", ARGUMENT, x -> x.runScript(1, (1L << 32) + 100_000));
    }

    /** "m: number of turns, 1 to 99". */
    private static void turns() {
        Open simulate = new Open("promise 26: simulate(5, .)", (x, m) -> x.simulate(5, m));
        for (Scene scene : Scenes.ALL) {
            simulate.refusedIn(scene, ARGUMENT, LOW, -1, 0, 100, HIGH);
            simulate.allowedIn(scene, 1, 2, 98, 99);
        }
    }

    /** "seed: any long". */
    private static void seeds() {
        long[] seeds = {Long.MIN_VALUE, Long.MIN_VALUE + 1, Integer.MIN_VALUE, -1, 0, 1, HIGH, Long.MAX_VALUE - 1,
            Long.MAX_VALUE};
        for (Scene scene : Scenes.ALL) {
            for (long seed : seeds) {
                scene.allows("promise 26: simulate(" + seed + ", 1)", x -> x.simulate(seed, 1));
                scene.allows("promise 26: simulate(" + seed + ", 99)", x -> x.simulate(seed, 99));
            }
        }
    }

    /** "slot: 0 or 1". */
    private static void slots() {
        for (Scene scene : Scenes.ALL) {
            for (Open call : SLOT) {
                call.refusedIn(scene, INDEX, LOW, -1, 2, HIGH);
            }
            SLOT[0].allowedIn(scene, 0, 1);
        }
        SLOT[1].allowedIn(Scenes.FULL, 0, 1);
    }
}
