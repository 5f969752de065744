import java.util.Random;

/** Long runs of calls, drawn with fixed seeds, on the program and on the model of it: promises 1 to 28. */
public final class ModelTest {
    private static final int[] EDGES = {Integer.MIN_VALUE, -2, -1, 0, 1, 2, 3, 5, 6, 9, 10, 14, 99, 100, 255, 256, 999,
        1000, 65536, Integer.MAX_VALUE};

    private final Random draw;
    private final int run;
    private final int span;
    private final int longest;
    private final boolean dear;
    private final PassedTraits x = new PassedTraits();
    private final Model m = new Model();
    private int calls = 0;

    private ModelTest(int run, int span, int longest, boolean dear) {
        this.run = run;
        this.span = span;
        this.longest = longest;
        this.dear = dear;
        draw = new Random(run);
    }

    public static void main(String[] args) {
        int runs = args.length > 0 ? Integer.parseInt(args[0]) : 120;
        for (int run = 0; run < runs; run++) {
            boolean long1 = run % 6 == 5;
            new ModelTest(run, long1 ? 1000 : 20 + run % 5 * 15, long1 ? 99 : 2 + run % 9, run % 3 == 0 && !long1).play();
        }
        Due.end();
    }

    private void play() {
        int towns = draw.nextInt(11);
        for (int i = 0; i < towns; i++) {
            same("found()", x::found, m::found);
        }
        int roads = draw.nextInt(22);
        for (int i = 0; i < roads; i++) {
            lay(draw.nextInt(Math.max(1, towns)), draw.nextInt(Math.max(1, towns)), 1 + draw.nextInt(longest));
        }
        while (calls < 512) {
            if (draw.nextInt(40) == 0) {
                burstOfText();
            } else if (draw.nextInt(60) == 0) {
                askAll();
            } else {
                call();
            }
        }
    }

    private int town() {
        if (draw.nextInt(30) == 0) {
            return EDGES[draw.nextInt(EDGES.length)];
        }
        return draw.nextInt(Math.max(1, x.about(0)));
    }

    private int trait() {
        return draw.nextInt(30) == 0 ? EDGES[draw.nextInt(EDGES.length)] : draw.nextInt(6) / (1 + draw.nextInt(3));
    }

    private int number(int below) {
        return draw.nextInt(30) == 0 ? EDGES[draw.nextInt(EDGES.length)] : draw.nextInt(below);
    }

    private void same(String what, Due.Call got, Due.Call want) {
        if (calls < 512) {
            calls++;
            String due = Due.outcome(want);
            String answered = Due.outcome(got);
            Due.isTrue("run " + run + " call " + calls + ": " + what + " " + answered + ", due is " + due,
                    due.equals(answered));
        }
    }

    private void lay(int a, int b, int length) {
        same("lay(" + a + ", " + b + ", " + length + ")", () -> x.lay(a, b, length), () -> m.lay(a, b, length));
    }

    private void call() {
        int kind = draw.nextInt(34);
        if (kind < 13) {
            action(kind);
        } else if (kind < 27) {
            question(kind);
        } else {
            other(kind);
        }
    }

    private void action(int kind) {
        int a = town();
        int b = town();
        int trait = trait();
        switch (kind) {
            case 0 -> same("found()", x::found, m::found);
            case 1 -> lay(a, b, number(longest + 1));
            case 2 -> same("tear(" + a + ", " + b + ")", () -> x.tear(a, b), () -> m.tear(a, b));
            case 3 -> same("forget(" + a + ", " + trait + ")", () -> x.forget(a, trait), () -> m.forget(a, trait));
            case 4 -> same("undo()", x::undo, m::undo);
            case 5 -> same("seeAll()", x::seeAll, m::seeAll);
            default -> {
                boolean had = draw.nextInt(5) < 3;
                int year = had ? number(span) : number(1 + span / 3);
                same("see(" + a + ", " + trait + ", " + year + ", " + had + ")", () -> x.see(a, trait, year, had),
                        () -> m.see(a, trait, year, had));
            }
        }
    }

    private void question(int kind) {
        int a = town();
        int b = town();
        int trait = trait();
        int k = number(11);
        boolean had = draw.nextBoolean();
        switch (kind) {
            case 13, 14 -> same("about(" + k + ")", () -> x.about(k), () -> m.about(k));
            case 15 -> same("road(" + a + ", " + b + ")", () -> x.road(a, b), () -> m.road(a, b));
            case 16 -> same("neighbor(" + a + ", " + k + ")", () -> x.neighbor(a, k), () -> m.neighbor(a, k));
            case 17 -> same("report(" + a + ", " + trait + ", " + had + ")", () -> x.report(a, trait, had),
                    () -> m.report(a, trait, had));
            case 18 -> same("inventions(" + trait + ")", () -> x.inventions(trait), () -> m.inventions(trait));
            case 19, 20 -> {
                int what = number(3);
                same("invented(" + trait + ", " + what + ")", () -> x.invented(trait, what),
                        () -> m.invented(trait, what));
            }
            case 21 -> same("choices(" + trait + ")", () -> x.choices(trait), () -> m.choices(trait));
            case 22 -> same("since(" + a + ", " + trait + ")", () -> x.since(a, trait), () -> m.since(a, trait));
            case 23 -> same("reached(" + trait + ", " + k + ")", () -> x.reached(trait, k), () -> m.reached(trait, k));
            default -> {
                int beside = x.about(0) > 0 && a >= 0 && a < x.about(0) ? x.neighbor(a, draw.nextInt(3)) : b;
                int other = beside == -1 ? b : beside;
                same("passed(" + other + ", " + a + ", " + trait + ")", () -> x.passed(other, a, trait),
                        () -> m.passed(other, a, trait));
            }
        }
    }

    private void other(int kind) {
        int a = town();
        int b = town();
        int length = number(longest + 1);
        switch (kind) {
            case 27 -> same("ifLaid(" + a + ", " + b + ", " + length + ")", () -> x.ifLaid(a, b, length),
                    () -> m.ifLaid(a, b, length));
            case 28 -> dearCalls(length);
            case 29, 30 -> {
                int n = draw.nextInt(12) == 0 ? number(5) : 1 + draw.nextInt(3);
                long script = script(n);
                same("runScript(" + n + ", " + script + ")", () -> x.runScript(n, script), () -> m.runScript(n, script));
            }
            case 31 -> {
                long seed = draw.nextLong();
                int turns = number(100);
                if (dear || turns < 1 || turns > 99) {
                    same("simulate(" + seed + ", " + turns + ")", () -> x.simulate(seed, turns),
                            () -> m.simulate(seed, turns));
                }
            }
            case 32 -> {
                int slot = number(2);
                same("save(" + slot + ")", () -> x.save(slot), () -> m.save(slot));
            }
            default -> {
                int slot = number(2);
                if (draw.nextInt(3) == 0) {
                    same("restore(" + slot + ")", () -> x.restore(slot), () -> m.restore(slot));
                }
            }
        }
    }

    private void dearCalls(int length) {
        if (dear && draw.nextInt(3) == 0) {
            same("bestRoad(" + length + ")", () -> x.bestRoad(length), () -> m.bestRoad(length));
            same("dearest()", x::dearest, m::dearest);
        }
    }

    private long script(int n) {
        if (draw.nextInt(25) == 0) {
            return draw.nextInt(3) == 0 ? draw.nextLong() : EDGES[draw.nextInt(EDGES.length)];
        }
        StringBuilder digits = new StringBuilder();
        for (int i = 0; i < Math.min(Math.max(n, 1), 3); i++) {
            int a = draw.nextInt(Math.max(1, x.about(0)));
            int b = draw.nextInt(Math.max(1, x.about(0)));
            int trait = draw.nextInt(6);
            int year = draw.nextInt(span);
            int few = draw.nextInt(8);
            String[] groups = {"100000", "2%d%d0%02d", "3%d%d000", "4%d%d%03d", "5%d%d%03d", "6%d%d000", "7%d00%02d",
                "8000%02d", "9%d%d%03d"};
            int kind = draw.nextInt(groups.length);
            String group = switch (kind) {
                case 1 -> String.format(groups[kind], a, b, draw.nextInt(longest + 1));
                case 2 -> String.format(groups[kind], a, b);
                case 3, 4, 8 -> String.format(groups[kind], a, trait, year);
                case 5 -> String.format(groups[kind], a, trait);
                case 6 -> String.format(groups[kind], trait, few);
                case 7 -> String.format(groups[kind], few);
                default -> groups[kind];
            };
            if (draw.nextInt(8) == 0) {
                int at = draw.nextInt(6);
                group = group.substring(0, at) + draw.nextInt(10) + group.substring(at + 1);
            }
            digits.append(group);
        }
        return Long.parseLong(digits.toString());
    }

    private void burstOfText() {
        if (draw.nextInt(3) > 0) {
            same("clearText()", x::clearText, m::clearText);
        }
        int reports = 1 + draw.nextInt(6);
        for (int i = 0; i < reports; i++) {
            String one = (i > 0 ? ";" : "") + draw.nextInt(10) + (draw.nextInt(5) < 3 ? '+' : '-') + draw.nextInt(6)
                    + ":" + draw.nextInt(span);
            for (int c = 0; c < one.length(); c++) {
                int sign = draw.nextInt(120) == 0 ? number(300) : one.charAt(c);
                same("append(" + sign + ")", () -> x.append(sign), () -> m.append(sign));
                if (draw.nextInt(10) == 0) {
                    same("errorPosition()", x::errorPosition, m::errorPosition);
                }
            }
        }
        same("errorPosition()", x::errorPosition, m::errorPosition);
        same("seeAll()", x::seeAll, m::seeAll);
    }

    private void askAll() {
        for (int what = 0; what <= 5; what++) {
            int k = what;
            same("about(" + k + ")", () -> x.about(k), () -> m.about(k));
            same("since of trait " + k, () -> x.since(0, k), () -> m.since(0, k));
            same("reached(" + k + ", 3)", () -> x.reached(k, 3), () -> m.reached(k, 3));
        }
    }
}
