import java.lang.reflect.InvocationTargetException;
import java.lang.reflect.Method;
import java.util.ArrayList;
import java.util.List;

/**
 * Every call of the face with all combinations of numbers that lie at the ends of a range, in lands from the emptiest to
 * the fullest, compared with the model: promises 2 to 28. No call throws what the document does not name.
 */
public final class CrossTest {
    private static final int LOW = Integer.MIN_VALUE;
    private static final int HIGH = Integer.MAX_VALUE;
    private static final Object[] TOWNS = {LOW, -1, 0, 1, 2, 9, 10, HIGH};
    private static final Object[] TRAITS = {LOW, -1, 0, 1, 5, 6, HIGH};
    private static final Object[] YEARS = {LOW, -1, 0, 1, 998, 999, 1000, HIGH};
    private static final Object[] LENGTHS = {LOW, -1, 0, 1, 2, 99, 100, HIGH};
    private static final Object[] COUNTS = {LOW, -1, 0, 1, 2, 3, 9, 10, HIGH};
    private static final Object[] SIGNS = {LOW, -65488, -1, 0, 48, 59, 255, 256, 304, 65584, HIGH};
    private static final Object[] TURNS = {LOW, -1, 0, 1, 99, 100, HIGH};
    private static final Object[] SLOTS = {LOW, -1, 0, 1, 2, HIGH};
    private static final Object[] BOTH = {true, false};
    private static final Object[] SEEDS = {Long.MIN_VALUE, -1L, 0L, Long.MAX_VALUE};
    private static final Object[] SCRIPTS = {Long.MIN_VALUE, -1L, 0L, 99_999L, 100_000L, 100_010L, 201_001L, 301_000L, 400_999L,
        505_000L, 601_000L, 700_001L, 800_009L, 900_999L, 999_999L, 1_000_000L, 100_000_100_000L, 999_999_999_999L,
        1_000_000_000_000L, 201_050_301_000_800_003L, 999_999_999_999_999_999L, 1_000_000_000_000_000_000L, Long.MAX_VALUE};
    private static final int MOST_CALLS = 512;

    /** A land, as the calls that make it. */
    private final List<Object[]> steps = new ArrayList<>();
    private final String name;
    private Object x;
    private Object m;
    private int calls;

    private CrossTest(String name) {
        this.name = name;
    }

    public static void main(String[] args) {
        CrossTest[] lands = {new CrossTest("nothing"), oneTown(), threeTowns(), tenTowns(), forgotten()};
        for (CrossTest land : lands) {
            land.all();
        }
        Due.end();
    }

    private CrossTest with(Object... step) {
        steps.add(step);
        return this;
    }

    private static CrossTest oneTown() {
        return new CrossTest("one town").with("found").with("see", 0, 0, 999, true).with("append", 48);
    }

    private static CrossTest threeTowns() {
        CrossTest land = new CrossTest("three towns").with("found").with("found").with("found");
        land.with("lay", 0, 1, 10).with("see", 0, 0, 5, true).with("see", 1, 0, 15, true).with("see", 1, 0, 999, false);
        land.with("see", 0, 1, 0, true).with("see", 1, 1, 10, true).with("see", 2, 1, 3, false).with("save", 1);
        return land.with("see", 2, 5, 998, true).with("text", "0+0:0;2-5:997;9+1:10");
    }

    private static CrossTest tenTowns() {
        CrossTest land = new CrossTest("ten towns");
        for (int t = 0; t < 10; t++) {
            land.with("found");
        }
        for (int t = 0; t < 10; t++) {
            land.with("lay", t, (t + 1) % 10, 1 + 9 * t);
            land.with("see", t, t % 3, 20 * t, true);
            land.with("see", t, (t + 1) % 4, 30 * t, false);
        }
        for (int t = 0; t < 5; t++) {
            land.with("lay", t, t + 5, 99);
        }
        return land.with("save", 0).with("save", 1).with("text", Scenes.LONGEST);
    }

    private static CrossTest forgotten() {
        CrossTest land = tenTowns();
        for (int t = 0; t < 10; t++) {
            land.with("forget", t, t % 3);
        }
        return land.with("tear", 9, 0).with("tear", 0, 5).with("restore", 0).with("tear", 1, 2).with("undo");
    }

    private void all() {
        cross("append", SIGNS);
        cross("clearText");
        cross("errorPosition");
        cross("about", new Object[] {LOW, -1, 0, 1, 2, 3, 4, 5, 6, HIGH});
        cross("road", TOWNS, TOWNS);
        cross("neighbor", TOWNS, COUNTS);
        cross("report", TOWNS, TRAITS, BOTH);
        cross("found");
        cross("lay", TOWNS, TOWNS, LENGTHS);
        cross("tear", TOWNS, TOWNS);
        cross("see", TOWNS, TRAITS, YEARS, BOTH);
        cross("seeAll");
        cross("forget", TOWNS, TRAITS);
        cross("undo");
        cross("inventions", TRAITS);
        cross("invented", TRAITS, new Object[] {LOW, -1, 0, 1, 2, 3, HIGH});
        cross("choices", TRAITS);
        cross("since", TOWNS, TRAITS);
        cross("reached", TRAITS, COUNTS);
        cross("passed", TOWNS, TOWNS, TRAITS);
        cross("ifLaid", TOWNS, TOWNS, LENGTHS);
        cross("bestRoad", new Object[] {LOW, 0, 1, 99, 100, HIGH});
        cross("dearest");
        cross("runScript", new Object[] {LOW, -1, 0, 1, 2, 3, 4, HIGH}, SCRIPTS);
        cross("simulate", SEEDS, TURNS);
        cross("save", SLOTS);
        cross("restore", SLOTS);
    }

    /** The call with all combinations, each behind the others of its land, on objects made anew in time. */
    private void cross(String call, Object[]... ranges) {
        makeAnew();
        int combinations = 1;
        for (Object[] range : ranges) {
            combinations *= range.length;
        }
        for (int number = 0; number < combinations; number++) {
            Object[] step = new Object[ranges.length + 1];
            step[0] = call;
            int rest = number;
            for (int i = ranges.length - 1; i >= 0; i--) {
                step[i + 1] = ranges[i][rest % ranges[i].length];
                rest /= ranges[i].length;
            }
            compare(step);
            compareTheState(number);
            if (calls > MOST_CALLS - 60) {
                makeAnew();
            }
        }
    }

    private void makeAnew() {
        x = new PassedTraits();
        m = new Model();
        calls = 0;
        for (Object[] step : steps) {
            if (step[0].equals("text")) {
                for (char sign : ((String) step[1]).toCharArray()) {
                    compare("append", (int) sign);
                }
            } else {
                compare(step);
            }
        }
    }

    private void compareTheState(int number) {
        int t = number % 10;
        int trait = number % 6;
        compare("about", number % 4);
        compare("report", t, trait, number % 2 == 0);
        compare("neighbor", t, number % 3);
        if (number % 20 == 0) {
            compare("about", 5);
            compare("errorPosition");
        }
    }

    private void compare(Object... step) {
        calls++;
        String due = outcome(m, step);
        String got = outcome(x, step);
        if (!got.equals(due)) {
            Due.tell(name + ": " + java.util.Arrays.toString(step) + " " + got + ", due is " + due);
        }
    }

    private static String outcome(Object on, Object[] step) {
        for (Method method : on.getClass().getDeclaredMethods()) {
            if (method.getName().equals(step[0]) && method.getParameterCount() == step.length - 1) {
                return outcome(method, on, java.util.Arrays.copyOfRange(step, 1, step.length));
            }
        }
        throw new IllegalStateException("no such call " + step[0]);
    }

    private static String outcome(Method method, Object on, Object[] arguments) {
        try {
            return String.valueOf(method.invoke(on, arguments));
        } catch (InvocationTargetException e) {
            return "throws " + e.getCause().getClass().getSimpleName();
        } catch (IllegalAccessException e) {
            throw new IllegalStateException(e);
        }
    }
}
