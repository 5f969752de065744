/** Promise 15 and promises 27 and 28: what is remembered and saved. */
public final class PastTest {
    private static final Class<IllegalStateException> STATE = IllegalStateException.class;
    private static final Class<IndexOutOfBoundsException> INDEX = IndexOutOfBoundsException.class;

    public static void main(String[] args) {
        undo();
        atMostFourteen();
        save();
        restore();
        Due.end();
    }

    private static void undo() {
        PassedTraits x = new PassedTraits();
        Due.refused("promise 15: none remembered", STATE, x, x::undo);
        x.found();
        x.found();
        x.lay(0, 1, 7);
        x.see(0, 0, 5, true);
        Build.write(x, "1+1:6");
        x.seeAll();
        x.forget(0, 0);
        x.tear(0, 1);
        Due.equal("promise 15: tear", 6, x.undo());
        Due.equal("promise 15: the road again", 7, x.road(0, 1));
        Due.equal("promise 15: forget", 5, x.undo());
        Due.equal("promise 15: the report again", 5, x.report(0, 0, true));
        Due.equal("promise 15: seeAll", 4, x.undo());
        Due.equal("promise 15: its report is gone", -1, x.report(1, 1, true));
        Due.equal("promise 15: the text stays", -1, x.errorPosition());
        Due.equal("promise 15: see", 3, x.undo());
        Due.equal("promise 15: nothing reported", 0, x.about(2));
        Due.equal("promise 15: lay", 2, x.undo());
        Due.equal("promise 15: no road", 0, x.about(1));
        Due.equal("promise 15: found", 1, x.undo());
        Due.equal("promise 15: found", 0, x.undo());
        Due.equal("promise 15: no town", 0, x.about(0));
        Due.refused("promise 15: none left", STATE, x, x::undo);
        Due.equal("promise 15: and on from there", 0, x.found());
        Due.equal("promise 15: a town founded anew has no reports", -1, x.report(0, 0, true));
        Due.equal("promise 15: one is remembered", 0, x.undo());
    }

    private static void atMostFourteen() {
        for (int actions = 12; actions <= 45; actions++) {
            PassedTraits x = Build.towns(1);
            for (int i = 0; i < actions; i++) {
                x.see(0, 0, 999 - i, true);
            }
            int due = Math.min(actions + 1, 14);
            for (int left = due - 1; left >= 0; left--) {
                Due.equal("promise 15: left of " + actions, left, x.undo());
                int undone = due - left;
                boolean any = actions > undone;
                if (actions >= undone) {
                    Due.equal("promise 15: year then", any ? 999 - (actions - undone) + 1 : -1, x.report(0, 0, true));
                }
            }
            Due.refused("promise 15: no more", STATE, x, x::undo);
        }
        PassedTraits x = Build.towns(1);
        for (int i = 0; i < 20; i++) {
            x.forget(0, 0);
        }
        Due.equal("promise 15: actions without effect are remembered too", 13, x.undo());
        x.forget(0, 0);
        Due.equal("promise 15: an undone one is not remembered", 13, x.undo());
    }

    private static void save() {
        PassedTraits x = Build.towns(3);
        Due.equal("promise 27: the towns", 3, x.save(1));
        Due.equal("promise 27: saving is no action", 2, x.undo());
        Due.equal("promise 27: the other slot", 2, x.save(0));
        int[] wrong = {-1, 2, Integer.MIN_VALUE, Integer.MAX_VALUE};
        for (int slot : wrong) {
            Due.refused("promise 27: slot " + slot, INDEX, x, () -> x.save(slot));
        }
        x.found();
        x.found();
        Due.equal("promise 27: slot 1 as it was", 3, x.restore(1));
        Due.equal("promise 27: slot 0 as it was", 2, x.restore(0));
        x.found();
        Due.equal("promise 27: stored over", 3, x.save(0));
        x.undo();
        Due.equal("promise 27: an undo leaves the slot alone", 3, x.restore(0));
    }

    private static void restore() {
        PassedTraits x = Build.row(3, 4);
        Due.refused("promise 28: nothing saved", STATE, x, () -> x.restore(0));
        Due.refused("promise 28: nothing saved", STATE, x, () -> x.restore(1));
        int[] wrong = {-1, 2, Integer.MIN_VALUE, Integer.MAX_VALUE};
        for (int slot : wrong) {
            Due.refused("promise 28: slot " + slot, INDEX, x, () -> x.restore(slot));
        }
        x.see(2, 4, 77, true);
        Build.write(x, "0+0:1");
        x.save(0);
        String saved = Look.at(x);
        Due.refused("promise 28: the other slot is empty", STATE, x, () -> x.restore(1));
        x.seeAll();
        x.tear(0, 1);
        x.forget(2, 4);
        x.found();
        Due.equal("promise 28: the towns then", 3, x.restore(0));
        Due.isTrue("promise 28: all as it was", saved.equals(Look.at(x)));
        Due.refused("promise 28: no state is remembered", STATE, x, x::undo);
        x.lay(0, 2, 5);
        Due.equal("promise 28: what comes is remembered", 0, x.undo());
        x.see(0, 0, 3, false);
        Due.equal("promise 28: the slot keeps it", 3, x.restore(0));
        Due.isTrue("promise 28: all as it was once more", saved.equals(Look.at(x)));
        x.clearText();
        x.restore(0);
        Due.equal("promise 28: the text is not saved", 0, x.errorPosition());
    }
}
