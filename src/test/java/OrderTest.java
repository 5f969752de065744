/**
 * "If several exceptions apply to a call, the one that its description names first is thrown. A call that throws an
 * exception changes nothing." Each pair of reasons of each call, promises 2 to 28.
 */
public final class OrderTest {
    private static final Class<IndexOutOfBoundsException> INDEX = IndexOutOfBoundsException.class;
    private static final Class<IllegalArgumentException> ARGUMENT = IllegalArgumentException.class;
    private static final Class<IllegalStateException> STATE = IllegalStateException.class;
    private static final int[] NO_TOWNS = {Integer.MIN_VALUE, -1, 10, Integer.MAX_VALUE};
    private static final int[] NO_NUMBERS = {Integer.MIN_VALUE, -1, 1000, Integer.MAX_VALUE};

    public static void main(String[] args) {
        signBeforeFullText();
        townBeforeNumber();
        townBeforeRoad();
        townBeforeSameTown();
        argumentBeforeRoom();
        townBeforeMissingRoad();
        slotBeforeEmptySlot();
        twoOfTheSameKind();
        reasonsOfTheStateAlone();
        Due.end();
    }

    private static void signBeforeFullText() {
        for (int c : NO_NUMBERS) {
            Scenes.FULL.refuses("promise 2: append(" + c + ") to a full text", ARGUMENT, x -> x.append(c));
        }
        Scenes.FULL.refuses("promise 2: append(255) to a full text", STATE, x -> x.append(255));
    }

    private static void townBeforeNumber() {
        for (Scene scene : Scenes.ALL) {
            for (int t : NO_TOWNS) {
                for (int number : NO_NUMBERS) {
                    if (number < 0) {
                        scene.refuses("promise 7: neighbor, both wrong", INDEX, x -> x.neighbor(t, number));
                    }
                    scene.refuses("promise 8: report, both wrong", INDEX, x -> x.report(t, number, true));
                    scene.refuses("promise 12: see, trait wrong too", INDEX, x -> x.see(t, number, 5, true));
                    scene.refuses("promise 12: see, year wrong too", INDEX, x -> x.see(t, 0, number, false));
                    scene.refuses("promise 12: see, all wrong", INDEX, x -> x.see(t, number, number, true));
                    scene.refuses("promise 14: forget, both wrong", INDEX, x -> x.forget(t, number));
                    scene.refuses("promise 19: since, both wrong", INDEX, x -> x.since(t, number));
                    scene.refuses("promise 21: passed, a and trait wrong", INDEX, x -> x.passed(t, 0, number));
                    scene.refuses("promise 21: passed, b and trait wrong", INDEX, x -> x.passed(0, t, number));
                }
            }
        }
    }

    private static void townBeforeRoad() {
        int[] lengths = {Integer.MIN_VALUE, -1, 0, 100, Integer.MAX_VALUE};
        for (Scene scene : Scenes.ALL) {
            for (int t : NO_TOWNS) {
                for (int length : lengths) {
                    scene.refuses("promise 10: lay, a and length wrong", INDEX, x -> x.lay(t, 0, length));
                    scene.refuses("promise 10: lay, b and length wrong", INDEX, x -> x.lay(0, t, length));
                    scene.refuses("promise 22: ifLaid, a and length wrong", INDEX, x -> x.ifLaid(t, 0, length));
                    scene.refuses("promise 22: ifLaid, b and length wrong", INDEX, x -> x.ifLaid(0, t, length));
                }
                // In the fullest land, 3 roads meet at town 0.
                scene.refuses("promise 10: lay, a wrong and no room", INDEX, x -> x.lay(t, 0, 5));
                scene.refuses("promise 10: lay, b wrong and no room", INDEX, x -> x.lay(0, t, 5));
                scene.refuses("promise 22: ifLaid, a wrong and no room", INDEX, x -> x.ifLaid(t, 0, 5));
                scene.refuses("promise 22: ifLaid, b wrong and no room", INDEX, x -> x.ifLaid(0, t, 5));
            }
        }
    }

    /** A town that is not there is not the same town, but none. */
    private static void townBeforeSameTown() {
        for (Scene scene : Scenes.ALL) {
            for (int t : NO_TOWNS) {
                scene.refuses("promise 10: lay, twice the same wrong town", INDEX, x -> x.lay(t, t, 5));
                scene.refuses("promise 10: lay, that and a wrong length", INDEX, x -> x.lay(t, t, 0));
                scene.refuses("promise 22: ifLaid, twice the same wrong town", INDEX, x -> x.ifLaid(t, t, 5));
                scene.refuses("promise 22: ifLaid, that and a wrong length", INDEX, x -> x.ifLaid(t, t, 0));
                scene.refuses("promise 11: tear, twice the same wrong town", INDEX, x -> x.tear(t, t));
                scene.refuses("promise 6: road, twice the same wrong town", INDEX, x -> x.road(t, t));
                scene.refuses("promise 21: passed, twice the same wrong town", INDEX, x -> x.passed(t, t, 0));
            }
        }
    }

    private static void argumentBeforeRoom() {
        int[] lengths = {Integer.MIN_VALUE, -1, 0, 100, Integer.MAX_VALUE};
        for (int length : lengths) {
            Scenes.FULL.refuses("promise 10: lay, length wrong and no room", ARGUMENT, x -> x.lay(0, 2, length));
            Scenes.FULL.refuses("promise 22: ifLaid, length wrong and no room", ARGUMENT, x -> x.ifLaid(0, 2, length));
            Scenes.FULL.refuses("promise 10: lay, the same town and length wrong", ARGUMENT, x -> x.lay(2, 2, length));
            Scenes.FULL.refuses("promise 22: ifLaid, the same town and length", ARGUMENT, x -> x.ifLaid(2, 2, length));
        }
        for (int t = 0; t < 10; t++) {
            int town = t;
            Scenes.FULL.refuses("promise 10: lay, the same town and no room", ARGUMENT, x -> x.lay(town, town, 5));
            Scenes.FULL.refuses("promise 22: ifLaid, the same town and no room", ARGUMENT, x -> x.ifLaid(town, town, 5));
        }
        Scenes.ONE.refuses("promise 10: lay, the same town alone", ARGUMENT, x -> x.lay(0, 0, 5));
        Scenes.ONE.refuses("promise 22: ifLaid, the same town alone", ARGUMENT, x -> x.ifLaid(0, 0, 5));
        Scenes.FULL.refuses("promise 10: lay, no room alone", STATE, x -> x.lay(0, 2, 5));
        Scenes.FULL.refuses("promise 22: ifLaid, no room alone", STATE, x -> x.ifLaid(0, 2, 5));
    }

    private static void townBeforeMissingRoad() {
        for (Scene scene : Scenes.ALL) {
            for (int t : NO_TOWNS) {
                scene.refuses("promise 11: tear, a wrong", INDEX, x -> x.tear(t, 0));
                scene.refuses("promise 11: tear, b wrong", INDEX, x -> x.tear(0, t));
            }
        }
        Scenes.ONE.refuses("promise 11: tear, from a town to itself", STATE, x -> x.tear(0, 0));
        Scenes.FEW.refuses("promise 11: tear, no road", STATE, x -> x.tear(0, 2));
    }

    private static void slotBeforeEmptySlot() {
        int[] slots = {Integer.MIN_VALUE, -1, 2, Integer.MAX_VALUE};
        for (int slot : slots) {
            Scenes.NOTHING.refuses("promise 28: no such slot, and nothing saved", INDEX, x -> x.restore(slot));
        }
        Scenes.NOTHING.refuses("promise 28: nothing saved in slot 0", STATE, x -> x.restore(0));
        Scenes.NOTHING.refuses("promise 28: nothing saved in slot 1", STATE, x -> x.restore(1));
        Scenes.FEW.refuses("promise 28: nothing saved in the other slot", STATE, x -> x.restore(1));
    }

    /** Two arguments out of their ranges at once are refused like one. */
    private static void twoOfTheSameKind() {
        for (int number : NO_NUMBERS) {
            Scenes.FEW.refuses("promise 12: see, trait and year wrong", ARGUMENT, x -> x.see(0, number, number, true));
            Scenes.FEW.refuses("promise 17: invented, both wrong", ARGUMENT, x -> x.invented(number, number));
            Scenes.FEW.refuses("promise 25: runScript, both wrong", ARGUMENT, x -> x.runScript(number, -1));
            Scenes.FEW.refuses("promise 25: runScript, both wrong", ARGUMENT, x -> x.runScript(number, Long.MAX_VALUE));
        }
        Scenes.FEW.refuses("promise 20: reached, both wrong", ARGUMENT, x -> x.reached(6, -1));
        Scenes.FEW.refuses("promise 20: reached, trait wrong", ARGUMENT, x -> x.reached(6, 0));
        Scenes.FEW.refuses("promise 20: reached, k wrong", ARGUMENT, x -> x.reached(5, -1));
        Scenes.FEW.refuses("promise 6: road, both wrong", INDEX, x -> x.road(-1, 4));
        Scenes.FEW.refuses("promise 10: lay, both towns wrong", INDEX, x -> x.lay(4, -1, 5));
        Scenes.FEW.refuses("promise 11: tear, both wrong", INDEX, x -> x.tear(4, -1));
        Scenes.FEW.refuses("promise 21: passed, both towns wrong", INDEX, x -> x.passed(4, -1, 0));
        Scenes.FEW.refuses("promise 22: ifLaid, both towns wrong", INDEX, x -> x.ifLaid(4, -1, 5));
    }

    private static void reasonsOfTheStateAlone() {
        Scenes.FULL.refuses("promise 9: found, 10 towns", STATE, PassedTraits::found);
        Scenes.FEW.refuses("promise 13: seeAll, no reports", STATE, PassedTraits::seeAll);
        Scenes.NOTHING.refuses("promise 13: seeAll, an empty text", STATE, PassedTraits::seeAll);
        Scenes.NOTHING.refuses("promise 15: undo, none remembered", STATE, PassedTraits::undo);
    }
}
