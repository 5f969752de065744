/** "An object is used for at most 512 calls": the 512th is answered as the first, whichever calls they are. */
public final class CallsTest {
    private static final int CALLS = 512;

    public static void main(String[] args) {
        sameQuestion("promise 4: errorPosition", PassedTraits::errorPosition);
        sameQuestion("promise 5: about(5)", x -> x.about(5));
        sameQuestion("promise 19: since(9, 3)", x -> x.since(9, 3));
        sameQuestion("promise 20: reached(3, 9)", x -> x.reached(3, 9));
        sameQuestion("promise 21: passed(1, 2, 2)", x -> x.passed(1, 2, 2));
        sameQuestion("promise 22: ifLaid(0, 1, 50)", x -> x.ifLaid(0, 1, 50));
        sameQuestion("promise 24: dearest", PassedTraits::dearest);
        sameQuestion("promise 25: runScript", x -> x.runScript(3, 301_000_301_000_000_000L));
        sameQuestion("promise 26: simulate", x -> x.simulate(77, 99));
        sameQuestion("promise 27: save", x -> x.save(0));
        sameQuestion("promise 28: restore", x -> x.restore(0));
        sameQuestion("promise 8: a refused call", x -> x.report(10, 0, true));
        sameQuestion("promise 9: a refused found", PassedTraits::found);
        bestRoads();
        appends();
        actionsAndUndos();
        savesAndRestores();
        Due.end();
    }

    private static void sameQuestion(String told, Scene.On call) {
        PassedTraits x = Scenes.FULL.make();
        String first = Due.outcome(() -> call.answer(x));
        for (int i = 160; i <= CALLS; i++) {
            String next = Due.outcome(() -> call.answer(x));
            Due.isTrue(told + " answered " + first + " first, later " + next, next.equals(first));
        }
    }

    /** The dearest question, in a land without roads: 45 pairs, six traits, ten towns. */
    private static void bestRoads() {
        PassedTraits x = Build.towns(10);
        for (int t = 0; t < 10; t++) {
            for (int trait = 0; trait < 6; trait++) {
                x.see(t, trait, 60 + trait, true);
            }
        }
        for (int i = 71; i <= CALLS; i++) {
            Due.equal("promise 23: bestRoad", 1, x.bestRoad(1 + i % 60));
        }
        Due.equal("promise 15: none of it was an action", 13, x.undo());
    }

    private static void appends() {
        PassedTraits x = new PassedTraits();
        int length = 0;
        for (int i = 1; i <= CALLS; i++) {
            if (i % 103 == 0) {
                Due.equal("promise 3: the text was full", 100, x.clearText());
                length = 0;
            } else if (length < 100) {
                length++;
                Due.equal("promise 2: the length", length, x.append(i % 256));
            } else {
                Due.thrown("promise 2: full", IllegalStateException.class, () -> x.append(5));
            }
        }
    }

    private static void actionsAndUndos() {
        PassedTraits x = Build.towns(2);
        for (int i = 0; i < 490; i++) {
            Due.equal("promise 12: had it not, a year later each time", 1, x.see(1, 5, i, false));
        }
        for (int left = 13; left >= 0; left--) {
            Due.equal("promise 15: left", left, x.undo());
        }
        Due.equal("promise 8: 14 are taken back", 475, x.report(1, 5, false));
        Due.thrown("promise 15: no more", IllegalStateException.class, x::undo);
    }

    private static void savesAndRestores() {
        PassedTraits x = Build.towns(1);
        for (int i = 0; i < 125; i++) {
            x.see(0, i % 6, i, true);
            Due.equal("promise 27: save", 1, x.save(i % 2));
            x.see(0, i % 6, 500 + i, false);
            Due.equal("promise 28: restore", 1, x.restore(i % 2));
        }
        Due.equal("promise 5: no contradiction is left", 0, x.about(3));
        Due.equal("promise 8: the first year", 0, x.report(0, 0, true));
    }
}
