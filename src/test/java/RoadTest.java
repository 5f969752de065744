/** Promises 22 to 24: what another road, or a report less, would explain. */
public final class RoadTest {
    private static final Class<IndexOutOfBoundsException> INDEX = IndexOutOfBoundsException.class;
    private static final Class<IllegalArgumentException> ARGUMENT = IllegalArgumentException.class;
    private static final Class<IllegalStateException> STATE = IllegalStateException.class;

    public static void main(String[] args) {
        ifLaid();
        bestRoad();
        dearest();
        Due.end();
    }

    /** Four towns that had trait 0 in the year 10, without roads, and two that had trait 5. */
    private static PassedTraits apart() {
        PassedTraits x = Build.towns(4);
        for (int t = 0; t < 4; t++) {
            x.see(t, 0, 10, true);
        }
        x.see(1, 5, 50, true);
        x.see(3, 5, 50, true);
        return x;
    }

    private static void ifLaid() {
        PassedTraits x = apart();
        Due.equal("promise 22: now", 6, x.about(5));
        Due.equal("promise 22: a road for one trait", 5, x.ifLaid(0, 1, 10));
        Due.equal("promise 22: a road for two", 4, x.ifLaid(3, 1, 10));
        Due.equal("promise 22: too long for one", 5, x.ifLaid(1, 3, 11));
        Due.equal("promise 22: too long for both", 6, x.ifLaid(1, 3, 51));
        Due.equal("promise 22: nothing is changed", 0, x.about(1));
        x.lay(0, 1, 5);
        x.lay(0, 2, 5);
        x.lay(0, 3, 5);
        Due.equal("promise 22: with these", 2, x.about(5));
        Due.equal("promise 22: another length counts", 3, x.ifLaid(0, 1, 11));
        Due.equal("promise 22: and is not kept", 5, x.road(0, 1));
        x.found();
        Due.refused("promise 22: four roads at 0", STATE, x, () -> x.ifLaid(0, 4, 5));
        Due.refused("promise 22: four roads at 0, from 4", STATE, x, () -> x.ifLaid(4, 0, 5));
        Due.refused("promise 22: length before room", ARGUMENT, x, () -> x.ifLaid(0, 4, 100));
        Due.refused("promise 22: length 0", ARGUMENT, x, () -> x.ifLaid(1, 2, 0));
        Due.refused("promise 22: the same town", ARGUMENT, x, () -> x.ifLaid(2, 2, 5));
        Due.refused("promise 22: town before length", INDEX, x, () -> x.ifLaid(5, 5, 0));
        Due.refused("promise 22: second town", INDEX, x, () -> x.ifLaid(0, -1, 5));
        PassedTraits full = Build.full(9);
        Due.refused("promise 22: a sixteenth road", STATE, full, () -> full.ifLaid(0, 2, 9));
        Due.equal("promise 22: another length of 15", 0, full.ifLaid(0, 1, 99));
        Due.equal("promise 22: asking is no action", 13, full.undo());
    }

    private static void bestRoad() {
        PassedTraits x = apart();
        Due.equal("promise 23: for two traits", 13, x.bestRoad(10));
        Due.equal("promise 23: for one", 13, x.bestRoad(50));
        Due.equal("promise 23: for none, the smallest number", 1, x.bestRoad(51));
        Due.equal("promise 23: nothing is changed", 0, x.about(1));
        x.lay(0, 1, 99);
        Due.equal("promise 23: a road that is there is none to lay", 2, x.bestRoad(60));
        x.lay(0, 2, 99);
        x.lay(0, 3, 99);
        Due.equal("promise 23: full at town 0", 12, x.bestRoad(99));
        int[] wrong = {0, -1, 100, Integer.MIN_VALUE, Integer.MAX_VALUE};
        for (int length : wrong) {
            Due.refused("promise 23: length " + length, ARGUMENT, x, () -> x.bestRoad(length));
        }
        Due.equal("promise 23: no town", -1, new PassedTraits().bestRoad(1));
        Due.equal("promise 23: one town", -1, Build.towns(1).bestRoad(1));
        Due.equal("promise 23: two towns", 1, Build.towns(2).bestRoad(1));
        Due.equal("promise 23: both joined", -1, Build.row(2, 1).bestRoad(1));
        Due.equal("promise 23: full", -1, Build.full(1).bestRoad(1));
        PassedTraits last = Build.row(10, 1);
        last.tear(8, 9);
        last.see(8, 3, 0, true);
        last.see(8, 3, 5, true);
        last.see(9, 3, 1, true);
        Due.equal("promise 23: the highest number", 89, last.bestRoad(1));
    }

    private static void dearest() {
        PassedTraits x = Build.row(4, 10);
        Due.equal("promise 24: no reports", -1, x.dearest());
        x.see(0, 2, 20, true);
        x.see(3, 2, 20, true);
        x.see(1, 2, 0, false);
        x.see(2, 2, 0, false);
        Due.equal("promise 24: two inventions", 2, x.about(5));
        Due.equal("promise 24: of several the smallest number", 2, x.dearest());
        x.see(1, 1, 500, true);
        Due.equal("promise 24: the least trait of the lowest town", 2, x.dearest());
        x.see(0, 1, 500, true);
        Due.equal("promise 24: a report that costs nothing is left", 2, x.dearest());
        Due.equal("promise 24: nothing is changed", 6, x.about(2));
        Due.equal("promise 24: no action", 12, x.undo());
        PassedTraits not = Build.row(3, 10);
        not.see(0, 4, 20, true);
        not.see(2, 4, 20, true);
        not.see(1, 4, 15, false);
        not.see(0, 4, 10, false);
        not.see(2, 4, 10, false);
        Due.equal("promise 24: two", 2, not.about(5));
        not.see(0, 4, 0, false);
        Due.equal("promise 24: town 0 costs one", 4, not.dearest());
        PassedTraits middle = Build.row(5, 10);
        middle.see(0, 0, 10, true);
        middle.see(2, 0, 10, true);
        middle.see(4, 0, 30, true);
        middle.see(1, 0, 0, false);
        Due.equal("promise 24: two for want of the middle", 2, middle.about(5));
        PassedTraits one = Build.row(3, 10);
        one.see(0, 0, 10, true);
        one.see(2, 0, 10, true);
        one.see(1, 0, 5, false);
        one.see(0, 0, 9, false);
        one.see(2, 0, 9, false);
        Due.equal("promise 24: each of two known towns costs one, the lower is told", 0, one.dearest());
        PassedTraits wrong = Build.towns(2);
        wrong.see(0, 0, 5, true);
        wrong.see(0, 0, 5, false);
        wrong.see(1, 0, 5, true);
        Due.equal("promise 24: no history counts for nothing", 0, wrong.about(5));
        Due.equal("promise 24: to forget a contradiction costs more", -1, wrong.dearest());
        PassedTraits lacking = Build.towns(3);
        lacking.see(1, 3, 5, false);
        Due.equal("promise 24: none is less than now", -1, lacking.dearest());
        lacking.see(2, 3, 5, true);
        Due.equal("promise 24: one known town", 23, lacking.dearest());
        PassedTraits cut = Build.row(7, 10);
        for (int t = 0; t < 7; t += 2) {
            cut.see(t, 5, 30, true);
        }
        cut.see(3, 5, 900, false);
        Due.equal("promise 24: a town that had it not in the middle", 2, cut.about(5));
        Due.equal("promise 24: it costs an invention", 35, cut.dearest());
    }
}
