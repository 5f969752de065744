/** Promise 1, promises 5 to 12 and promise 14. */
public final class LandTest {
    private static final Class<IndexOutOfBoundsException> INDEX = IndexOutOfBoundsException.class;
    private static final Class<IllegalArgumentException> ARGUMENT = IllegalArgumentException.class;
    private static final Class<IllegalStateException> STATE = IllegalStateException.class;
    private static final int LOW = Integer.MIN_VALUE;
    private static final int HIGH = Integer.MAX_VALUE;

    public static void main(String[] args) {
        newObject();
        about();
        road();
        neighbor();
        report();
        found();
        lay();
        tear();
        see();
        forget();
        Due.end();
    }

    private static void newObject() {
        PassedTraits x = new PassedTraits();
        for (int what = 0; what <= 5; what++) {
            Due.equal("promise 1: about " + what, 0, x.about(what));
        }
        Due.equal("promise 1: no text", 0, x.errorPosition());
        Due.thrown("promise 1: nothing to undo", STATE, x::undo);
        Due.thrown("promise 1: nothing saved", STATE, () -> x.restore(0));
        Due.equal("promise 1: no trait needs an invention", 0, x.inventions(5));
        Due.equal("promise 1: two objects are two lands", 0, new PassedTraits().found());
        Due.equal("promise 1: no town", 0, x.about(0));
    }

    private static void about() {
        PassedTraits x = Build.row(4, 10);
        x.see(0, 0, 10, true);
        x.see(0, 0, 5, false);
        x.see(1, 1, 10, true);
        x.see(1, 1, 10, false);
        x.see(3, 1, 10, true);
        x.see(2, 2, 10, false);
        x.see(0, 3, 10, true);
        x.see(2, 3, 10, true);
        Due.equal("promise 5: towns", 4, x.about(0));
        Due.equal("promise 5: roads", 3, x.about(1));
        Due.equal("promise 5: towns and traits with reports", 6, x.about(2));
        Due.equal("promise 5: contradictions", 1, x.about(3));
        Due.equal("promise 5: traits with inventions", 2, x.about(4));
        Due.equal("promise 5: inventions", 2, x.about(5));
        x.see(1, 3, 9, false);
        Due.equal("promise 5: one more invention", 3, x.about(5));
        Due.equal("promise 5: in no more traits", 2, x.about(4));
        int[] wrong = {-1, 6, LOW, HIGH};
        for (int what : wrong) {
            Due.refused("promise 5: about " + what, ARGUMENT, x, () -> x.about(what));
        }
    }

    private static void road() {
        PassedTraits x = Build.towns(3);
        x.lay(2, 0, 99);
        Due.equal("promise 6: a road", 99, x.road(0, 2));
        Due.equal("promise 6: the other way", 99, x.road(2, 0));
        Due.equal("promise 6: no road", -1, x.road(0, 1));
        Due.equal("promise 6: the same town", -1, x.road(1, 1));
        int[] wrong = {-1, 3, 10, LOW, HIGH};
        for (int t : wrong) {
            Due.refused("promise 6: from " + t, INDEX, x, () -> x.road(t, 0));
            Due.refused("promise 6: to " + t, INDEX, x, () -> x.road(0, t));
        }
    }

    private static void neighbor() {
        PassedTraits x = Build.towns(10);
        x.lay(4, 9, 1);
        x.lay(4, 7, 2);
        x.lay(4, 0, 3);
        int[] due = {0, 7, 9, -1, -1};
        for (int k = 0; k < due.length; k++) {
            Due.equal("promise 7: neighbor " + k, due[k], x.neighbor(4, k));
        }
        Due.equal("promise 7: the other way", 4, x.neighbor(9, 0));
        Due.equal("promise 7: the highest number", -1, x.neighbor(4, HIGH));
        Due.equal("promise 7: no road", -1, x.neighbor(1, 0));
        Due.refused("promise 7: k negative", ARGUMENT, x, () -> x.neighbor(4, -1));
        Due.refused("promise 7: no such town", INDEX, x, () -> x.neighbor(10, 0));
        Due.refused("promise 7: both", INDEX, x, () -> x.neighbor(-1, LOW));
    }

    private static void report() {
        PassedTraits x = Build.towns(2);
        x.see(1, 5, 0, true);
        Due.equal("promise 8: year 0", 0, x.report(1, 5, true));
        Due.equal("promise 8: no report that it had it not", -1, x.report(1, 5, false));
        Due.equal("promise 8: another town", -1, x.report(0, 5, true));
        Due.equal("promise 8: another trait", -1, x.report(1, 4, true));
        int[] wrong = {-1, 6, LOW, HIGH};
        for (int trait : wrong) {
            Due.refused("promise 8: trait " + trait, ARGUMENT, x, () -> x.report(1, trait, true));
        }
        Due.refused("promise 8: town 2", INDEX, x, () -> x.report(2, 0, true));
        Due.refused("promise 8: both", INDEX, x, () -> x.report(-1, 6, false));
    }

    private static void found() {
        PassedTraits x = new PassedTraits();
        for (int t = 0; t < 10; t++) {
            Due.equal("promise 9: its number", t, x.found());
            Due.equal("promise 9: without roads", -1, x.neighbor(t, 0));
        }
        Due.refused("promise 9: an eleventh", STATE, x, x::found);
        Due.equal("promise 9: and no action", 9, x.undo());
    }

    private static void lay() {
        PassedTraits x = Build.towns(5);
        Due.equal("promise 10: a road", 1, x.lay(0, 1, 1));
        Due.equal("promise 10: another", 2, x.lay(2, 0, 99));
        Due.equal("promise 10: another length", 2, x.lay(1, 0, 50));
        Due.equal("promise 10: that length", 50, x.road(0, 1));
        Due.equal("promise 10: both ways", 50, x.road(1, 0));
        Due.equal("promise 10: a third at town 0", 3, x.lay(0, 3, 4));
        Due.refused("promise 10: a fourth at town 0", STATE, x, () -> x.lay(0, 4, 4));
        Due.refused("promise 10: a fourth, from its other end", STATE, x, () -> x.lay(4, 0, 4));
        Due.equal("promise 10: another length is no road more", 3, x.lay(3, 0, 5));
        int[] lengths = {0, -1, 100, LOW, HIGH};
        for (int length : lengths) {
            Due.refused("promise 10: length " + length, ARGUMENT, x, () -> x.lay(1, 2, length));
            Due.refused("promise 10: length before room " + length, ARGUMENT, x, () -> x.lay(0, 4, length));
        }
        Due.refused("promise 10: the same town", ARGUMENT, x, () -> x.lay(1, 1, 5));
        int[] wrong = {-1, 5, LOW, HIGH};
        for (int t : wrong) {
            Due.refused("promise 10: from " + t, INDEX, x, () -> x.lay(t, 1, 5));
            Due.refused("promise 10: to " + t, INDEX, x, () -> x.lay(1, t, 5));
            Due.refused("promise 10: town before length", INDEX, x, () -> x.lay(t, t, 0));
        }
        PassedTraits full = Build.full(3);
        Due.equal("promise 10: 15 roads", 15, full.about(1));
        Due.equal("promise 10: a length among 15", 15, full.lay(0, 9, 8));
        Due.refused("promise 10: a sixteenth", STATE, full, () -> full.lay(0, 2, 8));
    }

    private static void tear() {
        PassedTraits x = Build.row(3, 8);
        Due.equal("promise 11: its length", 8, x.tear(1, 0));
        Due.equal("promise 11: no road then", -1, x.road(0, 1));
        Due.equal("promise 11: nor the other way", -1, x.road(1, 0));
        Due.equal("promise 11: the other stays", 8, x.road(1, 2));
        Due.refused("promise 11: once more", STATE, x, () -> x.tear(0, 1));
        Due.refused("promise 11: the same town", STATE, x, () -> x.tear(2, 2));
        Due.refused("promise 11: no such town", INDEX, x, () -> x.tear(0, 3));
        Due.refused("promise 11: no such first town", INDEX, x, () -> x.tear(-1, 1));
        Due.equal("promise 11: one action", 5, x.undo());
        Due.equal("promise 11: taken back", 8, x.road(0, 1));
    }

    private static void see() {
        PassedTraits x = Build.towns(2);
        Due.equal("promise 12: the first that it had it", 1, x.see(0, 0, 500, true));
        Due.equal("promise 12: the same year", 0, x.see(0, 0, 500, true));
        Due.equal("promise 12: a later one", 0, x.see(0, 0, 999, true));
        Due.equal("promise 12: an earlier one", 1, x.see(0, 0, 499, true));
        Due.equal("promise 12: the first that it had it not", 1, x.see(0, 0, 0, false));
        Due.equal("promise 12: the same", 0, x.see(0, 0, 0, false));
        Due.equal("promise 12: a later one counts", 1, x.see(0, 0, 10, false));
        Due.equal("promise 12: an earlier one", 0, x.see(0, 0, 9, false));
        Due.equal("promise 12: had", 499, x.report(0, 0, true));
        Due.equal("promise 12: had not", 10, x.report(0, 0, false));
        Due.equal("promise 12: no contradiction", 0, x.about(3));
        Due.equal("promise 12: contradicts in the same year", 1, x.see(0, 0, 499, false));
        Due.equal("promise 12: a contradiction", 1, x.about(3));
        Due.equal("promise 12: another town", -1, x.report(1, 0, true));
        int[] traits = {-1, 6, LOW, HIGH};
        int[] years = {-1, 1000, LOW, HIGH};
        for (int i = 0; i < traits.length; i++) {
            int trait = traits[i];
            int year = years[i];
            Due.refused("promise 12: trait " + trait, ARGUMENT, x, () -> x.see(1, trait, 5, true));
            Due.refused("promise 12: year " + year, ARGUMENT, x, () -> x.see(1, 0, year, false));
            Due.refused("promise 12: town before both", INDEX, x, () -> x.see(2, trait, year, true));
            Due.refused("promise 12: town " + trait, INDEX, x, () -> x.see(trait, 0, 5, true));
        }
        Due.equal("promise 12: each call that does not throw is an action", 10, x.undo());
    }

    private static void forget() {
        PassedTraits x = Build.towns(2);
        x.see(0, 0, 5, true);
        x.see(0, 0, 3, false);
        x.see(0, 1, 3, false);
        x.see(1, 0, 8, true);
        Due.equal("promise 14: both kinds", 1, x.forget(0, 0));
        Due.equal("promise 14: had is gone", -1, x.report(0, 0, true));
        Due.equal("promise 14: had not is gone", -1, x.report(0, 0, false));
        Due.equal("promise 14: another trait stays", 3, x.report(0, 1, false));
        Due.equal("promise 14: another town stays", 8, x.report(1, 0, true));
        Due.equal("promise 14: none left", 0, x.forget(0, 0));
        Due.equal("promise 14: one kind alone", 1, x.forget(0, 1));
        Due.refused("promise 14: trait 6", ARGUMENT, x, () -> x.forget(0, 6));
        Due.refused("promise 14: trait -1", ARGUMENT, x, () -> x.forget(0, -1));
        Due.refused("promise 14: town 2", INDEX, x, () -> x.forget(2, 0));
        Due.refused("promise 14: town before trait", INDEX, x, () -> x.forget(-1, 6));
        Due.equal("promise 14: three actions", 8, x.undo());
        x.undo();
        Due.equal("promise 14: taken back", 6, x.undo());
        Due.equal("promise 14: had again", 5, x.report(0, 0, true));
        Due.equal("promise 14: had not again", 3, x.report(0, 0, false));
    }
}
