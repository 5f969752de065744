/** Promises 16 to 21: the least histories of a trait. */
public final class HistoryTest {
    private static final Class<IndexOutOfBoundsException> INDEX = IndexOutOfBoundsException.class;
    private static final Class<IllegalArgumentException> ARGUMENT = IllegalArgumentException.class;
    private static final int[] NO_TRAITS = {-1, 6, Integer.MIN_VALUE, Integer.MAX_VALUE};

    public static void main(String[] args) {
        inventions();
        invented();
        choices();
        since();
        lateYears();
        reached();
        passed();
        passedInTimeForAll();
        passedWithoutB();
        Due.end();
    }

    /** A row 0 - 1 - 2 - 3 with roads of 10 years, known at both ends from the year 20 on at the latest. */
    private static PassedTraits row() {
        PassedTraits x = Build.row(4, 10);
        x.see(0, 1, 20, true);
        x.see(3, 1, 20, true);
        return x;
    }

    private static void inventions() {
        PassedTraits x = row();
        Due.equal("promise 16: one in the middle explains both", 1, x.inventions(1));
        Due.equal("promise 16: no report, no invention", 0, x.inventions(0));
        x.see(1, 1, 0, false);
        Due.equal("promise 16: from town 2, just in time", 1, x.inventions(1));
        x.see(2, 1, 0, false);
        Due.equal("promise 16: a year later is too late", 2, x.inventions(1));
        x.see(0, 1, 20, false);
        Due.equal("promise 16: reports that contradict one another", -1, x.inventions(1));
        x.see(0, 2, 999, false);
        Due.equal("promise 16: not had alone needs none", 0, x.inventions(2));
        PassedTraits late = Build.row(2, 1);
        late.see(0, 0, 998, false);
        late.see(0, 0, 999, true);
        late.see(1, 0, 998, false);
        late.see(1, 0, 999, true);
        Due.equal("promise 16: in the last year it can't be passed on", 2, late.inventions(0));
        PassedTraits many = Build.full(99);
        for (int t = 0; t < 10; t++) {
            many.see(t, 5, 98, true);
        }
        Due.equal("promise 16: ten inventions", 10, many.inventions(5));
        many.see(0, 5, 98, false);
        Due.equal("promise 16: one contradiction is enough", -1, many.inventions(5));
        for (int trait : NO_TRAITS) {
            Due.refused("promise 16: trait " + trait, ARGUMENT, x, () -> x.inventions(trait));
        }
    }

    private static void invented() {
        PassedTraits x = row();
        Due.equal("promise 17: the origins are the smallest set", 2, x.invented(1, 0));
        Due.equal("promise 17: in all", 0, x.invented(1, 1));
        Due.equal("promise 17: in some", 6, x.invented(1, 2));
        x.see(1, 1, 0, false);
        Due.equal("promise 17: one set alone, its origins", 4, x.invented(1, 0));
        Due.equal("promise 17: one set alone, in all", 4, x.invented(1, 1));
        Due.equal("promise 17: one set alone, in some", 4, x.invented(1, 2));
        for (int kind = 0; kind <= 2; kind++) {
            Due.equal("promise 17: no invention", 0, x.invented(0, kind));
        }
        PassedTraits apart = Build.towns(4);
        apart.lay(0, 1, 5);
        apart.see(1, 0, 5, true);
        apart.see(3, 0, 0, true);
        Due.equal("promise 17: apart, the smallest set", 9, apart.invented(0, 0));
        Due.equal("promise 17: apart, in all", 8, apart.invented(0, 1));
        Due.equal("promise 17: apart, in some", 11, apart.invented(0, 2));
        apart.see(3, 0, 0, false);
        for (int kind = 0; kind <= 2; kind++) {
            Due.equal("promise 17: no history", -1, apart.invented(0, kind));
        }
        Due.refused("promise 17: kind -1", ARGUMENT, x, () -> x.invented(0, -1));
        Due.refused("promise 17: kind 3", ARGUMENT, x, () -> x.invented(0, 3));
        Due.refused("promise 17: kind 3 without a history", ARGUMENT, apart, () -> apart.invented(0, 3));
        for (int trait : NO_TRAITS) {
            Due.refused("promise 17: trait " + trait, ARGUMENT, x, () -> x.invented(trait, 0));
        }
    }

    private static void choices() {
        PassedTraits x = row();
        Due.equal("promise 18: two towns in the middle", 2, x.choices(1));
        Due.equal("promise 18: no invention is one set", 1, x.choices(0));
        Due.equal("promise 18: an empty land", 1, new PassedTraits().choices(3));
        PassedTraits pairs = Build.towns(10);
        for (int t = 0; t < 10; t += 2) {
            pairs.lay(t, t + 1, 5);
            pairs.see(t, 2, 5, true);
        }
        Due.equal("promise 18: two for each of five", 32, pairs.choices(2));
        Due.equal("promise 18: five inventions", 5, pairs.inventions(2));
        x.see(0, 1, 30, false);
        Due.equal("promise 18: no history", -1, x.choices(1));
        for (int trait : NO_TRAITS) {
            Due.refused("promise 18: trait " + trait, ARGUMENT, x, () -> x.choices(trait));
        }
    }

    private static void since() {
        PassedTraits x = row();
        int[] due = {10, 0, 10, 20};
        for (int t = 0; t < 4; t++) {
            Due.equal("promise 19: since at " + t, due[t], x.since(t, 1));
            Due.equal("promise 19: a trait without invention", -1, x.since(t, 0));
        }
        x.see(2, 1, 10, false);
        Due.equal("promise 19: behind the report that it had it not", 11, x.since(2, 1));
        Due.equal("promise 19: from both ends now", 9, x.invented(1, 0));
        x.see(3, 1, 20, false);
        Due.equal("promise 19: no history", -1, x.since(0, 1));
        Due.refused("promise 19: town 4", INDEX, x, () -> x.since(4, 0));
        Due.refused("promise 19: town -1", INDEX, x, () -> x.since(-1, 0));
        Due.refused("promise 19: town before trait", INDEX, x, () -> x.since(4, 6));
        for (int trait : NO_TRAITS) {
            Due.refused("promise 19: trait " + trait, ARGUMENT, x, () -> x.since(0, trait));
        }
    }

    private static void lateYears() {
        PassedTraits x = Build.row(4, 99);
        x.see(0, 0, 800, false);
        x.see(0, 0, 801, true);
        Due.equal("promise 19: the origin", 801, x.since(0, 0));
        Due.equal("promise 19: by one road", 900, x.since(1, 0));
        Due.equal("promise 19: by the year 999", 999, x.since(2, 0));
        Due.equal("promise 19: not by the year 999", -1, x.since(3, 0));
        x.lay(2, 3, 1);
        Due.equal("promise 19: in the year 1000 is too late", -1, x.since(3, 0));
        x.see(1, 0, 999, false);
        Due.equal("promise 19: a town that had it not at the end", -1, x.since(1, 0));
        Due.equal("promise 19: and behind it", -1, x.since(2, 0));
        x.see(2, 0, 900, true);
        Due.equal("promise 19: another origin", 0, x.since(2, 0));
        Due.equal("promise 19: and from there", 1, x.since(3, 0));
    }

    private static void reached() {
        PassedTraits x = row();
        int[] due = {1, 0, 2, 3, -1};
        for (int k = 0; k < due.length; k++) {
            Due.equal("promise 20: reached " + k, due[k], x.reached(1, k));
            Due.equal("promise 20: without invention", -1, x.reached(0, k));
        }
        Due.equal("promise 20: the highest number", -1, x.reached(1, Integer.MAX_VALUE));
        x.tear(2, 3);
        Due.equal("promise 20: two origins", 9, x.invented(1, 0));
        int[] other = {0, 3, 1, 2, -1};
        for (int k = 0; k < other.length; k++) {
            Due.equal("promise 20: reached with two origins " + k, other[k], x.reached(1, k));
        }
        x.see(1, 1, 950, false);
        x.see(2, 1, 999, false);
        Due.equal("promise 20: a late town", 1, x.reached(1, 2));
        Due.equal("promise 20: a town that can't have it is not told", -1, x.reached(1, 3));
        x.see(0, 1, 20, false);
        Due.equal("promise 20: no history", -1, x.reached(1, 0));
        Due.refused("promise 20: k negative", ARGUMENT, x, () -> x.reached(1, -1));
        for (int trait : NO_TRAITS) {
            Due.refused("promise 20: trait " + trait, ARGUMENT, x, () -> x.reached(trait, 0));
        }
    }

    private static void passed() {
        PassedTraits x = row();
        Due.equal("promise 21: from 1 to 0", 1, x.passed(1, 0, 1));
        Due.equal("promise 21: from 2 to 3", 1, x.passed(2, 3, 1));
        Due.equal("promise 21: to a town not known to have had it", 0, x.passed(0, 1, 1));
        Due.equal("promise 21: no road", 0, x.passed(0, 3, 1));
        Due.equal("promise 21: the same town", 0, x.passed(0, 0, 1));
        Due.equal("promise 21: a trait without reports", 0, x.passed(1, 0, 0));
        x.lay(0, 1, 20);
        Due.equal("promise 21: in the last year that is in time", 1, x.passed(1, 0, 1));
        x.see(1, 1, 0, false);
        Due.equal("promise 21: a year too late, and invented at both ends", 0, x.passed(1, 0, 1));
        x.see(3, 1, 20, false);
        Due.equal("promise 21: no history", 0, x.passed(1, 0, 1));
        Due.refused("promise 21: first town", INDEX, x, () -> x.passed(4, 0, 1));
        Due.refused("promise 21: second town", INDEX, x, () -> x.passed(0, -1, 1));
        Due.refused("promise 21: town before trait", INDEX, x, () -> x.passed(0, 4, 6));
        for (int trait : NO_TRAITS) {
            Due.refused("promise 21: trait " + trait, ARGUMENT, x, () -> x.passed(0, 1, trait));
        }
    }

    /** 0 is joined with 1 by 1 and with 2 by 30, 1 with 2 by 1, and 2 with 3 by 10, which had it in the year 20. */
    private static void passedInTimeForAll() {
        PassedTraits x = Build.towns(4);
        x.lay(0, 1, 1);
        x.lay(0, 2, 30);
        x.lay(1, 2, 1);
        x.lay(2, 3, 10);
        x.see(0, 0, 0, true);
        x.see(1, 0, 500, true);
        x.see(2, 0, 500, true);
        Due.equal("promise 21: by the long road", 1, x.passed(0, 2, 0));
        Due.equal("promise 21: by way of 1", 1, x.passed(1, 2, 0));
        x.see(3, 0, 20, true);
        Due.equal("promise 21: one invention still", 1, x.inventions(0));
        Due.equal("promise 21: by the long road 3 would have it too late", 0, x.passed(0, 2, 0));
        Due.equal("promise 21: by way of 1 in time", 1, x.passed(1, 2, 0));
        Due.equal("promise 21: on to 3", 1, x.passed(2, 3, 0));
        Due.equal("promise 21: back from 3 it can't have come", 0, x.passed(3, 2, 0));
    }

    /** What a has from b alone, b can't have from a. */
    private static void passedWithoutB() {
        PassedTraits x = Build.row(3, 5);
        x.see(0, 0, 0, true);
        x.see(1, 0, 900, true);
        x.see(2, 0, 900, true);
        Due.equal("promise 21: along the row", 1, x.passed(0, 1, 0));
        Due.equal("promise 21: and on", 1, x.passed(1, 2, 0));
        Due.equal("promise 21: not back", 0, x.passed(2, 1, 0));
        x.lay(0, 2, 50);
        Due.equal("promise 21: round the other way", 1, x.passed(2, 1, 0));
        Due.equal("promise 21: never to the only origin", 0, x.passed(1, 0, 0));
    }
}
