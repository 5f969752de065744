/** All that the face tells of an object, in one text. */
final class Look {
    private Look() {
    }

    static String at(PassedTraits x) {
        StringBuilder told = new StringBuilder();
        for (int what = 0; what <= 5; what++) {
            told.append(x.about(what)).append(' ');
        }
        told.append("text ").append(x.errorPosition()).append(" roads");
        int towns = x.about(0);
        for (int a = 0; a < towns; a++) {
            for (int b = a + 1; b < towns; b++) {
                told.append(' ').append(x.road(a, b));
            }
        }
        told.append(" reports");
        for (int t = 0; t < towns; t++) {
            for (int trait = 0; trait < 6; trait++) {
                told.append(' ').append(x.report(t, trait, true)).append('/').append(x.report(t, trait, false));
            }
        }
        return told.toString();
    }
}
