import java.util.ArrayList;
import java.util.List;

/** The boundary cases of "ACTIONS AND UNDO" and of the save slots: promises 15, 27 and 28, a sentence a test. */
public final class PastEdgeTest {
    private static final Class<IllegalStateException> STATE = IllegalStateException.class;
    private static final int NONE = PassedTraits.NONE;

    private record Action(String name, Scene.On call) {
    }

    /** Each action, once with an effect and, where that can be, once without, on the scene FEW. */
    private static final Action[] ACTIONS = {
        new Action("found", PassedTraits::found),
        new Action("lay, a road", x -> x.lay(0, 3, 5)),
        new Action("lay, another length", x -> x.lay(0, 1, 5)),
        new Action("lay, the same length", x -> x.lay(0, 1, 10)),
        new Action("tear", x -> x.tear(1, 2)),
        new Action("see", x -> x.see(3, 5, 0, false)),
        new Action("see, what does not count", x -> x.see(0, 0, 21, true)),
        new Action("forget", x -> x.forget(2, 5)),
        new Action("forget, without reports", x -> x.forget(3, 3)),
    };

    /** What changes neither the state nor what is remembered. */
    private static final Action[] NO_ACTIONS = {
        new Action("append", x -> x.append('5')),
        new Action("clearText", PassedTraits::clearText),
        new Action("errorPosition", PassedTraits::errorPosition),
        new Action("about", x -> x.about(5)),
        new Action("road", x -> x.road(0, 1)),
        new Action("neighbor", x -> x.neighbor(1, 1)),
        new Action("report", x -> x.report(0, 0, true)),
        new Action("inventions", x -> x.inventions(0)),
        new Action("invented", x -> x.invented(0, 2)),
        new Action("choices", x -> x.choices(0)),
        new Action("since", x -> x.since(3, 0)),
        new Action("reached", x -> x.reached(0, 3)),
        new Action("passed", x -> x.passed(1, 0, 0)),
        new Action("ifLaid", x -> x.ifLaid(0, 3, 1)),
        new Action("ifLaid, another length", x -> x.ifLaid(0, 1, 99)),
        new Action("bestRoad", x -> x.bestRoad(1)),
        new Action("dearest", PassedTraits::dearest),
        new Action("runScript", x -> x.runScript(3, 100_000_312_000_600_000L)),
        new Action("simulate", x -> x.simulate(7, 99)),
        new Action("save", x -> x.save(1)),
    };

    public static void main(String[] args) {
        eachActionIsRemembered();
        seeAllIsRemembered();
        othersAreNotRemembered();
        undoIsNone();
        atMostFourteen();
        eachStateAsItWas();
        noneRemembered();
        undoneIsNotRemembered();
        refusedIsNotRemembered();
        saveStoresTheState();
        saveOfNothingAndOfAll();
        slotsApart();
        restoreForgetsRemembered();
        restoreIsNoAction();
        slotKeepsIt();
        emptySlots();
        Due.end();
    }

    /** "Each call of one of them that does not throw an exception is an action, also if nothing becomes different". */
    private static void eachActionIsRemembered() {
        for (Action action : ACTIONS) {
            PassedTraits x = Scenes.FEW.make();
            String before = Look.at(x);
            action.call.answer(x);
            Due.equal("promise 15: 12 states remain behind " + action.name, 12, x.undo());
            Due.isTrue("promise 15: " + action.name + " is taken back", before.equals(Look.at(x)));
        }
    }

    private static void seeAllIsRemembered() {
        PassedTraits x = Scenes.FULL.make();
        String before = Look.at(x);
        Due.equal("promise 13: seeAll", 0, x.seeAll());
        Due.isTrue("promise 13: it sees something", !before.equals(Look.at(x)));
        Due.equal("promise 15: 13 states remain behind seeAll", 13, x.undo());
        Due.isTrue("promise 15: seeAll is taken back", before.equals(Look.at(x)));
    }

    /** The methods in the section "actions" alone are actions. */
    private static void othersAreNotRemembered() {
        for (Action other : NO_ACTIONS) {
            PassedTraits x = Scenes.FEW.make();
            String before = Look.at(x).replaceAll("text \\S+", "");
            other.call.answer(x);
            Due.isTrue(other.name + " changes the state", before.equals(Look.at(x).replaceAll("text \\S+", "")));
            Due.equal("promise 15: 11 states remain behind " + other.name, 11, x.undo());
        }
        for (int i = 2; i < NO_ACTIONS.length - 1; i++) {
            Action question = NO_ACTIONS[i];
            Scenes.FEW.changesNothing(question.name, question.call);
            if (!question.name.startsWith("ifLaid")) {
                Scenes.FULL.changesNothing(question.name, question.call);
            }
        }
    }

    /** "(undo is none)": what an undo took back stays so. */
    private static void undoIsNone() {
        PassedTraits x = Build.towns(5);
        for (int left = 4; left >= 0; left--) {
            Due.equal("promise 15: how many are left", left, x.undo());
            Due.equal("promise 15: the towns", left, x.about(0));
        }
        Due.thrown("promise 15: no more", STATE, x::undo);
    }

    /** "At most 14 states are remembered; when one more is remembered, the oldest one is forgotten." */
    private static void atMostFourteen() {
        for (int actions = 0; actions <= 60; actions++) {
            PassedTraits x = new PassedTraits();
            for (int i = 0; i < actions; i++) {
                if (i == 0) {
                    x.found();
                } else {
                    x.see(0, 0, 1000 - i, true);
                }
            }
            int remembered = Math.min(actions, 14);
            for (int undone = 1; undone <= remembered; undone++) {
                String told = undone + " of " + actions;
                Due.equal("promise 15: how many are left, " + told, remembered - undone, x.undo());
                int taken = actions - undone;
                Due.equal("promise 15: the towns, " + told, taken == 0 ? 0 : 1, x.about(0));
                if (taken > 0) {
                    int year = taken == 1 ? NONE : 1000 - (taken - 1);
                    Due.equal("promise 15: the year, " + told, year, x.report(0, 0, true));
                }
            }
            Due.thrown("promise 15: no more of " + actions, STATE, x::undo);
        }
    }

    /** "Before each action, the state is remembered.": each of the last 14, whole. */
    private static void eachStateAsItWas() {
        PassedTraits x = new PassedTraits();
        List<String> states = new ArrayList<>();
        for (int i = 0; i < 40; i++) {
            states.add(Look.at(x));
            switch (i % 4) {
                case 0 -> x.found();
                case 1 -> x.see(i / 4, i % 6, i, i % 3 == 0);
                case 2 -> x.see(i / 8, 5, 999 - i, true);
                default -> {
                    if (i / 4 > 0) {
                        x.lay(i / 4 - 1, i / 4, i);
                    } else {
                        x.forget(0, 0);
                    }
                }
            }
        }
        for (int left = 13; left >= 0; left--) {
            Due.equal("promise 15: left", left, x.undo());
            Due.isTrue("promise 15: the state with " + left + " left", states.get(26 + left).equals(Look.at(x)));
        }
        Due.thrown("promise 15: the 15th", STATE, x::undo);
        Due.isTrue("promise 15: nothing changes then", states.get(26).equals(Look.at(x)));
    }

    /** "Throws IllegalStateException if none is remembered". */
    private static void noneRemembered() {
        Scenes.NOTHING.refuses("promise 15: a new object", STATE, PassedTraits::undo);
        Scene saved = new Scene("restored", () -> {
            PassedTraits x = Scenes.FULL.make();
            x.restore(1);
            return x;
        });
        saved.refuses("promise 15: behind restore", STATE, PassedTraits::undo);
        Scene undone = new Scene("all undone", () -> {
            PassedTraits x = Scenes.FULL.make();
            for (int i = 0; i < 14; i++) {
                x.undo();
            }
            return x;
        });
        undone.refuses("promise 15: behind 14", STATE, PassedTraits::undo);
    }

    private static void undoneIsNotRemembered() {
        PassedTraits x = Build.towns(1);
        for (int round = 0; round < 40; round++) {
            x.see(0, 0, round, false);
            Due.equal("promise 15: one is left each time", 1, x.undo());
        }
        for (int round = 0; round < 13; round++) {
            x.see(0, 0, round, false);
        }
        Due.equal("promise 15: 14 in all", 13, x.undo());
        x.see(0, 0, 100, false);
        x.see(0, 0, 101, false);
        Due.equal("promise 15: full again", 13, x.undo());
        Due.equal("promise 8: the state between", 100, x.report(0, 0, false));
    }

    private static void refusedIsNotRemembered() {
        PassedTraits x = Build.towns(10);
        for (int i = 0; i < 30; i++) {
            Due.thrown("promise 9: refused", STATE, x::found);
            Due.thrown("promise 11: refused", STATE, () -> x.tear(0, 1));
            Due.thrown("promise 13: refused", STATE, x::seeAll);
            Due.thrown("promise 12: refused", IllegalArgumentException.class, () -> x.see(0, 0, 1000, true));
            Due.thrown("promise 14: refused", IllegalArgumentException.class, () -> x.forget(0, 6));
            Due.thrown("promise 10: refused", IllegalArgumentException.class, () -> x.lay(0, 1, 0));
        }
        Due.equal("promise 15: nine foundings remain", 9, x.undo());
        Due.equal("promise 15: the last one was taken back", 9, x.about(0));
    }

    /** "Stores the present state in a save slot."; what comes later does not reach it. */
    private static void saveStoresTheState() {
        for (int i = 0; i <= 1; i++) {
            int slot = i;
            for (Action action : ACTIONS) {
                PassedTraits x = Scenes.FEW.make();
                String before = Look.at(x);
                Due.equal("promise 27: the towns", 4, x.save(slot));
                action.call.answer(x);
                Due.equal("promise 28: the towns", 4, x.restore(slot));
                Due.isTrue("promise 28: as before " + action.name, before.equals(Look.at(x)));
            }
            PassedTraits x = Scenes.FEW.make();
            x.save(slot);
            x.undo();
            x.undo();
            x.restore(slot);
            Due.equal("promise 28: an undo does not reach the slot", 999, x.report(1, 4, true));
        }
    }

    /** "Returns the number of towns.": 0 to 10; "Returns the number of towns then." */
    private static void saveOfNothingAndOfAll() {
        for (int towns = 0; towns <= 10; towns++) {
            PassedTraits x = Build.towns(towns);
            Due.equal("promise 27: slot 0", towns, x.save(0));
            Due.equal("promise 27: slot 1", towns, x.save(1));
            if (towns < 10) {
                x.found();
            }
            Due.equal("promise 28: slot 0", towns, x.restore(0));
            Due.equal("promise 5: the towns", towns, x.about(0));
            Due.equal("promise 28: slot 1", towns, x.restore(1));
        }
        PassedTraits x = new PassedTraits();
        x.save(0);
        Due.equal("promise 28: a land without towns can be saved", 0, x.restore(0));
        PassedTraits full = Scenes.FULL.make();
        String before = Look.at(full);
        Due.equal("promise 27: the fullest", 10, full.save(1));
        full.restore(0);
        Due.equal("promise 28: the fullest", 10, full.restore(1));
        Due.isTrue("promise 28: all of it", before.equals(Look.at(full)));
    }

    private static void slotsApart() {
        PassedTraits x = Build.towns(2);
        x.save(0);
        x.found();
        x.save(1);
        x.found();
        Due.equal("promise 28: slot 0", 2, x.restore(0));
        Due.equal("promise 28: slot 1", 3, x.restore(1));
        Due.equal("promise 27: slot 0 anew", 3, x.save(0));
        x.found();
        Due.equal("promise 27: slot 1 anew", 4, x.save(1));
        Due.equal("promise 28: slot 0 holds the new state", 3, x.restore(0));
        Due.equal("promise 28: slot 1 holds the newer one", 4, x.restore(1));
        PassedTraits other = new PassedTraits();
        Due.thrown("promise 28: another object has slots of its own", STATE, () -> other.restore(0));
    }

    /** "and forgets all remembered states": one, and fourteen. */
    private static void restoreForgetsRemembered() {
        for (int actions = 0; actions <= 30; actions++) {
            PassedTraits x = new PassedTraits();
            x.save(0);
            x.found();
            for (int i = 1; i < actions; i++) {
                x.forget(0, 0);
            }
            Due.equal("promise 28: the towns then", 0, x.restore(0));
            Due.thrown("promise 28: none is remembered behind " + actions, STATE, x::undo);
            x.found();
            x.found();
            Due.equal("promise 15: what comes then is remembered", 1, x.undo());
            Due.equal("promise 15: and no more than that", 0, x.undo());
            Due.thrown("promise 15: nothing from before", STATE, x::undo);
        }
        PassedTraits x = Build.towns(3);
        Due.thrown("promise 28: a refused restore", STATE, () -> x.restore(1));
        Due.equal("promise 28: forgets nothing", 2, x.undo());
    }

    /** "restore is not an action." */
    private static void restoreIsNoAction() {
        Scenes.FULL.answers("promise 28: slot 1", 10, x -> x.restore(1));
        Scenes.FULL.answers("promise 28: slot 0", 10, x -> x.restore(0));
        PassedTraits x = Scenes.FULL.make();
        x.restore(0);
        x.restore(1);
        Due.thrown("promise 28: twice", STATE, x::undo);
        Due.equal("promise 28: slot 1 was saved without reports", 0, x.about(2));
    }

    /** "The save slot keeps it." */
    private static void slotKeepsIt() {
        PassedTraits x = Scenes.FULL.make();
        x.restore(1);
        String saved = Look.at(x);
        for (int i = 0; i < 10; i++) {
            x.see(i % 10, i % 6, 5 + i, true);
            x.tear(i, (i + 1) % 10);
            x.restore(1);
            if (i % 5 == 0) {
                Due.isTrue("promise 28: once more", saved.equals(Look.at(x)));
            }
        }
        Due.equal("promise 28: the last time", 10, x.restore(1));
        Due.equal("promise 5: all its roads", 15, x.about(1));
    }

    /** "Throws IllegalStateException if nothing has been saved in it". */
    private static void emptySlots() {
        for (int i = 0; i <= 1; i++) {
            int slot = i;
            Scenes.NOTHING.refuses("promise 28: nothing saved", STATE, x -> x.restore(slot));
            Scenes.ONE.refuses("promise 28: nothing saved", STATE, x -> x.restore(slot));
            PassedTraits x = Build.towns(1);
            x.save(1 - slot);
            Due.thrown("promise 28: saved in the other one", STATE, () -> x.restore(slot));
            Due.equal("promise 28: that one is there", 1, x.restore(1 - slot));
        }
    }
}
