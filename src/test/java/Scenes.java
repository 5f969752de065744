/** States of objects from the emptiest to the fullest. */
final class Scenes {
    /** 13 reports, 100 characters. */
    static final String LONGEST = "0+0:100;1-1:200;2+2:300;3-3:400;4+4:500;5-5:600;6+0:700;7-1:800;8+2:900;9-3:999;"
            + "0+4:10;1-5:20;2+0:30";

    static final Scene NOTHING = new Scene("nothing", PassedTraits::new);
    static final Scene ONE = new Scene("one town", Scenes::one);
    static final Scene FEW = new Scene("four towns in a row", Scenes::few);
    static final Scene FULL = new Scene("ten towns and fifteen roads", Scenes::full);
    static final Scene[] ALL = {NOTHING, ONE, FEW, FULL};

    private Scenes() {
    }

    private static PassedTraits one() {
        PassedTraits x = Build.towns(1);
        Build.write(x, "0+0:5");
        return x;
    }

    /** A row 0 - 1 - 2 - 3 of roads of 10 years; 12 actions, of which slot 0 holds what 11 of them made. */
    private static PassedTraits few() {
        PassedTraits x = Build.row(4, 10);
        x.see(0, 0, 20, true);
        x.see(3, 0, 20, true);
        x.see(2, 5, 7, true);
        x.see(2, 5, 7, false);
        x.save(0);
        x.see(1, 4, 999, true);
        Build.write(x, "0+1:5;9-1:7;");
        return x;
    }

    /** More actions than are remembered, both slots saved, a text of 100 characters. */
    private static PassedTraits full() {
        PassedTraits x = Build.full(7);
        x.save(1);
        for (int t = 0; t < 10; t++) {
            x.see(t, t % 6, 100 * t, true);
            x.see(t, t % 6, 70 * t, false);
        }
        x.see(4, 4, 999, false);
        x.save(0);
        x.lay(0, 9, 99);
        Build.write(x, LONGEST);
        return x;
    }
}
