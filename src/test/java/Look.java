/** What the face tells of an object, in one text. */
final class Look {
    private Look() {
    }

    static String at(PassedTraits x) {
        StringBuilder told = new StringBuilder();
        for (int what = 0; what <= 5; what++) {
            told.append(x.about(what)).append(' ');
        }
        told.append("text ").append(x.errorPosition()).append(" roads");
        int towns = x.about(0);
        for (int a = 0; a < towns; a++) {
            for (int b = a + 1; b < towns; b++) {
                told.append(' ').append(x.road(a, b));
            }
        }
        told.append(" reports");
        for (int t = 0; t < towns; t++) {
            for (int trait = 0; trait < 6; trait++) {
                told.append(' ').append(x.report(t, trait, true)).append('/').append(x.report(t, trait, false));
            }
        }
        return told.toString();
    }

    static String atHistories(PassedTraits x) {
        StringBuilder told = new StringBuilder("histories");
        int towns = x.about(0);
        for (int trait = 0; trait < 6; trait++) {
            told.append(' ').append(x.inventions(trait)).append('/').append(x.choices(trait));
            for (int kind = 0; kind <= 2; kind++) {
                told.append('/').append(x.invented(trait, kind));
            }
            for (int t = 0; t < towns; t++) {
                told.append(',').append(x.since(t, trait)).append('@').append(x.reached(trait, t));
            }
        }
        return told.toString();
    }

    /** The text, as far as it can be told: it is taken down as reports, and emptied. */
    static String atText(PassedTraits x) {
        StringBuilder told = new StringBuilder("text ");
        told.append(x.errorPosition()).append(' ').append(Due.outcome(x::seeAll)).append(' ').append(at(x));
        return told.append(" length ").append(x.clearText()).toString();
    }

    /** What a save slot holds: it is restored. */
    static String atSlot(PassedTraits x, int slot) {
        return "slot " + Due.outcome(() -> x.restore(slot)) + " " + at(x) + " " + Due.outcome(x::undo);
    }
}
