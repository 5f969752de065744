/** Makes objects for the tests. */
final class Build {
    private Build() {
    }

    static PassedTraits towns(int n) {
        PassedTraits x = new PassedTraits();
        for (int i = 0; i < n; i++) {
            x.found();
        }
        return x;
    }

    /** Towns in a row, each joined with the next by a road of this length. */
    static PassedTraits row(int n, int length) {
        PassedTraits x = towns(n);
        for (int i = 0; i + 1 < n; i++) {
            x.lay(i, i + 1, length);
        }
        return x;
    }

    /** Ten towns in a ring, and each joined with the opposite one: 15 roads, 3 at each town. */
    static PassedTraits full(int length) {
        PassedTraits x = row(10, length);
        x.lay(9, 0, length);
        for (int i = 0; i < 5; i++) {
            x.lay(i, i + 5, length);
        }
        return x;
    }

    static void write(PassedTraits x, String text) {
        for (int i = 0; i < text.length(); i++) {
            x.append(text.charAt(i));
        }
    }

    static PassedTraits written(String text) {
        PassedTraits x = new PassedTraits();
        write(x, text);
        return x;
    }
}
