/** The boundary cases of "HISTORIES": its Terms and promises 16 to 21, a sentence a test. */
public final class HistoryEdgeTest {
    private static final int NONE = PassedTraits.NONE;
    private static final int[] LENGTHS = {1, 2, 50, 98, 99};

    public static void main(String[] args) {
        asManyYearsAsTheRoadIsLong();
        alongTwoRoads();
        behindTheYearsWithout();
        inTheLastYears();
        hadAtTheLatest();
        notBeforeTheYearNull();
        unknownTownsMayHaveIt();
        unknownTownsThatCannot();
        fewestInventions();
        tenInventions();
        smallestNumber();
        noInventionNeeded();
        contradictionsOfOthers();
        eachTraitAlone();
        inAllAndInSome();
        choicesFromOneToMany();
        sinceByTheLastYear();
        sinceFromTheOriginsAlone();
        reachedInOrder();
        reachedBeyondTheLast();
        passedOnlyByARoad();
        passedOnlyToAKnownTown();
        passedInTime();
        passedInTimeForAllReports();
        passedWithoutB();
        passedInSomeLeastHistory();
        passedToAnOrigin();
        Due.end();
    }

    /** Two towns, the first had it in its first year, the other at the latest in the year that is told. */
    private static PassedTraits pair(int length, int year, int other) {
        PassedTraits x = Build.row(2, length);
        if (year > 0) {
            x.see(0, 0, year - 1, false);
        }
        x.see(0, 0, year, true);
        x.see(1, 0, other, true);
        return x;
    }

    /** "a town that has had it for at least as many years as the road is long, in that year". */
    private static void asManyYearsAsTheRoadIsLong() {
        int[] years = {0, 1, 400, 900};
        for (int length : LENGTHS) {
            for (int year : years) {
                String told = " length " + length + " from the year " + year;
                PassedTraits inTime = pair(length, year, year + length);
                Due.equal("promise 16: just in time," + told, 1, inTime.inventions(0));
                Due.equal("promise 19: just in time," + told, year + length, inTime.since(1, 0));
                Due.equal("promise 21: just in time," + told, 1, inTime.passed(0, 1, 0));
                PassedTraits early = pair(length, year, year + length - 1);
                if (year + length >= 2) {
                    early.see(1, 0, year + length - 2, false);
                }
                Due.equal("promise 16: a year too early," + told, 2, early.inventions(0));
                Due.equal("promise 21: a year too early," + told, 0, early.passed(0, 1, 0));
            }
        }
    }

    /** The years of two roads are added, and there is no year lost between them. */
    private static void alongTwoRoads() {
        for (int first : LENGTHS) {
            for (int second : LENGTHS) {
                PassedTraits x = Build.towns(3);
                x.lay(0, 1, first);
                x.lay(1, 2, second);
                x.see(0, 5, 0, true);
                x.see(2, 5, first + second, true);
                Due.equal("promise 16: just in time", 1, x.inventions(5));
                Due.equal("promise 19: the middle", first, x.since(1, 5));
                Due.equal("promise 19: the end", first + second, x.since(2, 5));
                x.see(2, 5, first + second - 1, true);
                Due.equal("promise 16: a year too early", 2, x.inventions(5));
                Due.equal("promise 17: invented in the middle too", 3, x.invented(5, 0));
                Due.equal("promise 19: from there on to the end", second, x.since(2, 5));
            }
        }
    }

    /** "no town has it in a year in which it had it not, or before". */
    private static void behindTheYearsWithout() {
        int[] lacked = {0, 1, 9, 10, 11, 500, 997};
        for (int year : lacked) {
            PassedTraits x = Build.row(3, 10);
            x.see(0, 0, 0, true);
            x.see(1, 0, year, false);
            int middle = Math.max(10, year + 1);
            Due.equal("promise 19: the year behind " + year, middle, x.since(1, 0));
            int end = middle + 10;
            Due.equal("promise 19: from there on to the next", end <= 999 ? end : NONE, x.since(2, 0));
            PassedTraits invented = Build.towns(1);
            invented.see(0, 0, year, false);
            invented.see(0, 0, 999, true);
            Due.equal("promise 19: invented in the year behind " + year, year + 1, invented.since(0, 0));
            invented.see(0, 0, year + 1, true);
            Due.equal("promise 16: in the year behind at the latest", 1, invented.inventions(0));
        }
    }

    /** A town that had it not in 998 can have it in the last year, but pass it on no more. */
    private static void inTheLastYears() {
        PassedTraits x = Build.row(3, 1);
        x.see(0, 0, 998, false);
        x.see(0, 0, 999, true);
        Due.equal("promise 16: invented in 999", 1, x.inventions(0));
        Due.equal("promise 19: in 999", 999, x.since(0, 0));
        Due.equal("promise 19: no more in 999", NONE, x.since(1, 0));
        x.see(1, 0, 997, false);
        x.see(1, 0, 998, true);
        Due.equal("promise 16: invented in 998", 1, x.inventions(0));
        Due.equal("promise 17: there, or in 2, which never had it not", 6, x.invented(0, 2));
        Due.equal("promise 19: a year later next to it", 999, x.since(0, 0));
        Due.equal("promise 19: a year later on the other side", 999, x.since(2, 0));
        Due.equal("promise 21: in the last year", 1, x.passed(1, 0, 0));
        x.see(2, 0, 999, false);
        Due.equal("promise 19: had it not to the end", NONE, x.since(2, 0));
        x.see(2, 1, 999, false);
        x.see(1, 1, 0, true);
        Due.equal("promise 19: had it not to the end, whoever has it", NONE, x.since(2, 1));
    }

    /** "each town that had it in a year has it from that year on, at the latest": it may have it earlier. */
    private static void hadAtTheLatest() {
        PassedTraits x = Build.row(2, 30);
        x.see(0, 0, 100, true);
        x.see(1, 0, 30, true);
        Due.equal("promise 16: invented in 0 in time for 1", 1, x.inventions(0));
        Due.equal("promise 17: either of both", 3, x.invented(0, 2));
        Due.equal("promise 19: long before the report", 0, x.since(0, 0));
        x.see(0, 0, 0, false);
        Due.equal("promise 17: a year later than that in 1 alone", 2, x.invented(0, 2));
    }

    /** "An invention is in the year 0 at the earliest." */
    private static void notBeforeTheYearNull() {
        for (int length : LENGTHS) {
            PassedTraits x = Build.row(2, length);
            x.see(0, 0, 0, true);
            x.see(1, 0, 0, true);
            Due.equal("promise 16: both in the year 0", 2, x.inventions(0));
            Due.equal("promise 17: both", 3, x.invented(0, 1));
            Due.equal("promise 19: in the year 0", 0, x.since(0, 0));
            x.forget(1, 0);
            x.see(1, 0, length, true);
            Due.equal("promise 16: the other by the road", 1, x.inventions(0));
            x.see(1, 0, length - 1, true);
            Due.equal("promise 16: no year is left for it", 2, x.inventions(0));
        }
    }

    /** "A town that is not known to have had it may have it or not". */
    private static void unknownTownsMayHaveIt() {
        PassedTraits x = Build.row(10, 99);
        x.see(0, 2, 891, true);
        x.see(9, 2, 891, true);
        Due.equal("promise 16: passed on by eight unknown towns", 1, x.inventions(2));
        Due.equal("promise 18: invented in any of ten", 10, x.choices(2));
        Due.equal("promise 17: the smallest set", 1, x.invented(2, 0));
        Due.equal("promise 17: each in some", 1023, x.invented(2, 2));
        Due.equal("promise 19: at the other end", 891, x.since(9, 2));
        x.see(9, 2, 890, true);
        Due.equal("promise 16: invented nearer to its end", 1, x.inventions(2));
        Due.equal("promise 17: not in town 0", 1022, x.invented(2, 2));
        x.see(0, 2, 445, true);
        x.see(9, 2, 445, true);
        Due.equal("promise 16: a year too early for the middle", 2, x.inventions(2));
        PassedTraits middle = Build.row(3, 10);
        middle.see(0, 0, 10, true);
        middle.see(2, 0, 10, true);
        Due.equal("promise 17: invented in a town without reports", 2, middle.invented(0, 0));
        Due.equal("promise 17: there alone", 2, middle.invented(0, 2));
    }

    /** "but later than the latest year in which it had it not". */
    private static void unknownTownsThatCannot() {
        PassedTraits x = Build.row(3, 10);
        x.see(0, 0, 0, true);
        x.see(2, 0, 30, true);
        x.see(1, 0, 19, false);
        Due.equal("promise 16: the middle has it from 20 on", 1, x.inventions(0));
        Due.equal("promise 19: and the end from 30 on", 30, x.since(2, 0));
        x.see(1, 0, 20, false);
        Due.equal("promise 16: a year too late", 2, x.inventions(0));
        Due.equal("promise 17: at both ends", 5, x.invented(0, 1));
        x.see(1, 0, 999, false);
        Due.equal("promise 16: never in the middle", 2, x.inventions(0));
        Due.equal("promise 19: never in the middle", NONE, x.since(1, 0));
        Due.equal("promise 20: two towns have it", 2, x.reached(0, 1));
        Due.equal("promise 20: the middle does not", NONE, x.reached(0, 2));
    }

    /** "A least history is one with the fewest inventions". */
    private static void fewestInventions() {
        for (int towns = 1; towns <= 10; towns++) {
            PassedTraits apart = Build.towns(towns);
            PassedTraits joined = Build.row(towns, 5);
            for (int t = 0; t < towns; t++) {
                apart.see(t, 4, 999, true);
                joined.see(t, 4, 999, true);
            }
            Due.equal("promise 16: without roads each by itself", towns, apart.inventions(4));
            Due.equal("promise 17: and all of them", (1 << towns) - 1, apart.invented(4, 1));
            Due.equal("promise 18: one choice", 1, apart.choices(4));
            Due.equal("promise 16: joined, one is enough", 1, joined.inventions(4));
            Due.equal("promise 17: in any of them", (1 << towns) - 1, joined.invented(4, 2));
            Due.equal("promise 17: in all there is none", towns == 1 ? 1 : 0, joined.invented(4, 1));
            Due.equal("promise 18: as many choices as towns", towns, joined.choices(4));
        }
    }

    /** All ten towns of the fullest land, in the year 0: ten inventions, and all are origins. */
    private static void tenInventions() {
        PassedTraits x = Build.full(1);
        for (int t = 0; t < 10; t++) {
            x.see(t, 0, 0, true);
        }
        Due.equal("promise 16: ten", 10, x.inventions(0));
        for (int kind = 0; kind <= 2; kind++) {
            Due.equal("promise 17: all", 1023, x.invented(0, kind));
        }
        Due.equal("promise 18: one choice", 1, x.choices(0));
        Due.equal("promise 5: ten", 10, x.about(5));
        for (int t = 0; t < 10; t++) {
            Due.equal("promise 19: in the year 0", 0, x.since(t, 0));
            Due.equal("promise 20: all at once, the lowest first", t, x.reached(0, t));
            Due.equal("promise 21: not passed", 0, x.passed((t + 1) % 10, t, 0));
        }
    }

    /** "of several sets of towns the one whose number (bit t set for the town t) is smallest": not the lowest town. */
    private static void smallestNumber() {
        // A ring 0 - 1 - 3 - 2 - 0: 0 and 3 explain it, and so do 1 and 2, of which the number is less.
        PassedTraits x = Build.towns(4);
        x.lay(0, 1, 5);
        x.lay(1, 3, 5);
        x.lay(3, 2, 5);
        x.lay(2, 0, 5);
        for (int t = 0; t < 4; t++) {
            x.see(t, 0, 5, true);
        }
        Due.equal("promise 16: two", 2, x.inventions(0));
        Due.equal("promise 18: any two of four", 6, x.choices(0));
        Due.equal("promise 17: 0 and 1", 3, x.invented(0, 0));
        x.see(1, 0, 0, false);
        x.see(0, 0, 0, false);
        Due.equal("promise 16: two still", 2, x.inventions(0));
        PassedTraits y = Build.towns(4);
        y.lay(0, 1, 5);
        y.lay(0, 2, 5);
        y.lay(3, 1, 50);
        y.lay(3, 2, 5);
        y.see(0, 0, 5, true);
        y.see(1, 0, 5, true);
        y.see(2, 0, 5, true);
        y.see(3, 0, 5, true);
        // 0 explains 0, 1, 2; 1 explains 0, 1; 2 explains 0, 2, 3; 3 explains 2, 3.
        Due.equal("promise 18: 0 and 2, 0 and 3, 1 and 2, 1 and 3", 4, y.choices(0));
        Due.equal("promise 17: 0 and 2 have the number 5, less than 1 and 2 with 6", 5, y.invented(0, 0));
        y.see(2, 0, 0, true);
        y.forget(3, 0);
        y.see(3, 0, 55, true);
        // 2 had it in the year 0, so it is invented there, and in 0 or in 1: 5 or 6.
        Due.equal("promise 17: 2 in all", 4, y.invented(0, 1));
        Due.equal("promise 17: 5 before 6", 5, y.invented(0, 0));
        PassedTraits z = Build.towns(4);
        z.lay(0, 1, 5);
        z.lay(2, 3, 5);
        z.lay(1, 3, 5);
        z.see(0, 0, 5, true);
        z.see(1, 0, 5, true);
        z.see(3, 0, 0, true);
        // 3 is invented, 1 has it from there in the year 5; 0 is invented, or has it from 1 invented: 9 or 10.
        Due.equal("promise 17: 9 before 10", 9, z.invented(0, 0));
        Due.equal("promise 17: 3 in all", 8, z.invented(0, 1));
        Due.equal("promise 18: two", 2, z.choices(0));
        highTownsBeforeALowOne();
    }

    /** The sets 1, 2 and 0, 3 explain all: 6 is less than 9, though 0 is the lowest town. */
    private static void highTownsBeforeALowOne() {
        PassedTraits x = Build.towns(8);
        int[] known = {4, 5, 6, 7};
        int[] first = {0, 0, 3, 3};
        int[] second = {1, 2, 1, 2};
        for (int i = 0; i < known.length; i++) {
            x.lay(first[i], known[i], 5);
            x.lay(second[i], known[i], 5);
            x.see(known[i], 0, 4, false);
            x.see(known[i], 0, 5, true);
        }
        Due.equal("promise 16: two", 2, x.inventions(0));
        Due.equal("promise 18: two choices", 2, x.choices(0));
        Due.equal("promise 17: in some", 15, x.invented(0, 2));
        Due.equal("promise 17: in all none", 0, x.invented(0, 1));
        Due.equal("promise 17: 6 before 9", 6, x.invented(0, 0));
        Due.equal("promise 19: from these", 0, x.since(1, 0));
        Due.equal("promise 19: and so not at once", 10, x.since(0, 0));
    }

    /** "A trait that no town is known to have had needs no invention (it has no origins)." */
    private static void noInventionNeeded() {
        for (int towns = 0; towns <= 10; towns += 5) {
            for (int lacking = 0; lacking <= towns; lacking++) {
                PassedTraits x = Build.row(towns, 5);
                for (int t = 0; t < lacking; t++) {
                    x.see(t, 5, t * 111, false);
                }
                Due.equal("promise 16: none", 0, x.inventions(5));
                for (int kind = 0; kind <= 2; kind++) {
                    Due.equal("promise 17: no towns", 0, x.invented(5, kind));
                }
                Due.equal("promise 18: 1 for a trait that needs no invention", 1, x.choices(5));
                Due.equal("promise 20: none is reached", NONE, x.reached(5, 0));
                for (int t = 0; t < towns; t++) {
                    Due.equal("promise 19: none has it", NONE, x.since(t, 5));
                    Due.equal("promise 21: none passes it", 0, x.passed(t, (t + 1) % towns, 5));
                }
                Due.equal("promise 5: no invention", 0, x.about(5));
            }
        }
    }

    /** One contradiction, in whichever town, and the trait has no history; the others have theirs. */
    private static void contradictionsOfOthers() {
        for (int t = 0; t < 10; t++) {
            PassedTraits x = Build.row(10, 5);
            x.see(3, 2, 100, true);
            x.see(3, 1, 100, true);
            x.see(t, 2, 50, true);
            x.see(t, 2, 50, false);
            Due.equal("promise 16: no history", NONE, x.inventions(2));
            Due.equal("promise 16: the other trait has one", 1, x.inventions(1));
            for (int u = 0; u < 10; u++) {
                Due.equal("promise 19: no history", NONE, x.since(u, 2));
                Due.equal("promise 21: no history", 0, x.passed(u, (u + 1) % 10, 2));
            }
            Due.equal("promise 5: the traits with inventions", 1, x.about(4));
            Due.equal("promise 5: the inventions", 1, x.about(5));
            x.forget(t, 2);
            Due.equal("promise 16: a history again", t == 3 ? 0 : 1, x.inventions(2));
        }
    }

    /** Each trait has its own reports; the first and the last are traits as the others are. */
    private static void eachTraitAlone() {
        PassedTraits x = Build.row(6, 10);
        for (int trait = 0; trait <= 5; trait++) {
            x.see(trait, trait, trait, true);
        }
        for (int trait = 0; trait <= 5; trait++) {
            Due.equal("promise 16: one each", 1, x.inventions(trait));
            Due.equal("promise 17: where it is known", 1 << trait, x.invented(trait, 2));
            Due.equal("promise 20: where it is first", trait, x.reached(trait, 0));
        }
        Due.equal("promise 5: six", 6, x.about(4));
    }

    /** "1: the towns in which it is invented in all least histories; 2: those in which it is in some". */
    private static void inAllAndInSome() {
        PassedTraits x = Build.row(10, 10);
        x.tear(4, 5);
        x.see(0, 0, 0, true);
        x.see(9, 0, 20, true);
        Due.equal("promise 17: origins", 1 | 1 << 7, x.invented(0, 0));
        Due.equal("promise 17: in all", 1, x.invented(0, 1));
        Due.equal("promise 17: in some", 1 | 7 << 7, x.invented(0, 2));
        Due.equal("promise 18: three", 3, x.choices(0));
        x.see(9, 0, 10, true);
        Due.equal("promise 17: a year counts", 1 | 3 << 8, x.invented(0, 2));
        x.see(9, 0, 0, true);
        Due.equal("promise 17: in all both", 1 | 1 << 9, x.invented(0, 1));
    }

    /** "Returns how many sets there are, each for some least history": 1, 2, .. and 252. */
    private static void choicesFromOneToMany() {
        PassedTraits pairs = Build.towns(10);
        for (int t = 0; t < 10; t += 2) {
            pairs.lay(t, t + 1, 5);
            pairs.see(t, 0, 5, true);
            Due.equal("promise 18: twice as many", 1 << t / 2 + 1, pairs.choices(0));
        }
        PassedTraits threes = Build.towns(9);
        for (int t = 0; t < 9; t += 3) {
            threes.lay(t, t + 1, 5);
            threes.lay(t, t + 2, 5);
            threes.see(t, 0, 5, true);
        }
        Due.equal("promise 18: 3 * 3 * 3", 27, threes.choices(0));
        Due.equal("promise 17: the lowest of each", 1 | 8 | 64, threes.invented(0, 0));
        Due.equal("promise 17: in some", 511, threes.invented(0, 2));
        threes.see(0, 0, 5, false);
        Due.equal("promise 18: NONE if it has no history", NONE, threes.choices(0));
    }

    /** "NONE if it cannot have it then by the year 999". */
    private static void sinceByTheLastYear() {
        for (int length : LENGTHS) {
            PassedTraits x = Build.row(3, length);
            int year = 999 - length;
            x.see(0, 0, year - 1, false);
            x.see(0, 0, year, true);
            Due.equal("promise 19: in 999", 999, x.since(1, 0));
            Due.equal("promise 19: behind 999", NONE, x.since(2, 0));
            Due.equal("promise 20: two", 1, x.reached(0, 1));
            Due.equal("promise 20: no third", NONE, x.reached(0, 2));
            x.see(0, 0, year, false);
            x.forget(0, 0);
            x.see(0, 0, year, false);
            x.see(0, 0, year + 1, true);
            Due.equal("promise 19: a year later it is too late", NONE, x.since(1, 0));
            Due.equal("promise 20: one", NONE, x.reached(0, 1));
        }
    }

    /** "in a history in which it is invented in its origins alone". */
    private static void sinceFromTheOriginsAlone() {
        PassedTraits x = Build.towns(4);
        x.lay(0, 1, 10);
        x.lay(2, 3, 10);
        x.see(1, 0, 10, true);
        Due.equal("promise 17: the origin", 1, x.invented(0, 0));
        Due.equal("promise 19: from there", 10, x.since(1, 0));
        Due.equal("promise 19: no road leads there", NONE, x.since(2, 0));
        Due.equal("promise 19: nor there", NONE, x.since(3, 0));
        x.see(1, 0, 9, true);
        Due.equal("promise 17: another origin", 2, x.invented(0, 0));
        Due.equal("promise 19: the other way", 10, x.since(0, 0));
    }

    /** "from 0: the earliest year first, as since() tells it, of several the lowest town". */
    private static void reachedInOrder() {
        PassedTraits x = Build.towns(10);
        int[][] roads = {{9, 8, 2}, {9, 1, 1}, {9, 3, 2}, {1, 0, 1}, {8, 7, 1}, {3, 2, 97}};
        for (int[] road : roads) {
            x.lay(road[0], road[1], road[2]);
        }
        x.see(9, 5, 0, true);
        int[] order = {9, 1, 0, 3, 8, 7, 2, NONE, NONE};
        int[] years = {0, 1, 2, 2, 2, 3, 99};
        for (int k = 0; k < order.length; k++) {
            Due.equal("promise 20: reached(5, " + k + ")", order[k], x.reached(5, k));
            if (k < years.length) {
                Due.equal("promise 19: in its year", years[k], x.since(order[k], 5));
            }
        }
        for (int t = 4; t <= 6; t++) {
            Due.equal("promise 19: the others never", NONE, x.since(t, 5));
        }
    }

    /** "NONE if there are not so many that can have it." */
    private static void reachedBeyondTheLast() {
        for (int towns = 1; towns <= 10; towns++) {
            PassedTraits x = Build.row(towns, 9);
            x.see(towns - 1, 0, 0, true);
            for (int k = 0; k < towns; k++) {
                Due.equal("promise 20: from the end on", towns - 1 - k, x.reached(0, k));
            }
            int[] many = {towns, towns + 1, 10, 11, Integer.MAX_VALUE};
            for (int k : many) {
                Due.equal("promise 20: not so many", NONE, x.reached(0, k));
            }
        }
    }

    /** "Returns 1 if there is a road between them". */
    private static void passedOnlyByARoad() {
        PassedTraits x = Build.row(3, 5);
        x.see(0, 0, 0, true);
        x.see(1, 0, 900, true);
        x.see(2, 0, 900, true);
        int[][] due = {{0, 1, 0}, {0, 0, 1}, {0, 0, 0}};
        for (int a = 0; a < 3; a++) {
            for (int b = 0; b < 3; b++) {
                Due.equal("promise 21: passed(" + a + ", " + b + ", 0)", due[a][b], x.passed(a, b, 0));
            }
        }
        x.tear(0, 1);
        Due.equal("promise 21: the road is torn up", 0, x.passed(0, 1, 0));
    }

    /** "b is known to have had the trait": a report that it had it not is not enough. */
    private static void passedOnlyToAKnownTown() {
        PassedTraits x = Build.row(2, 5);
        x.see(0, 0, 0, true);
        Due.equal("promise 21: no report of b", 0, x.passed(0, 1, 0));
        x.see(1, 0, 500, false);
        Due.equal("promise 21: b had it not", 0, x.passed(0, 1, 0));
        x.see(1, 0, 999, true);
        Due.equal("promise 21: b had it in the last year", 1, x.passed(0, 1, 0));
        Due.equal("promise 21: another trait", 0, x.passed(0, 1, 1));
        x.see(1, 0, 999, false);
        Due.equal("promise 21: without a history", 0, x.passed(0, 1, 0));
    }

    /** "in time": in the year of the report at the latest, and not before b can have it. */
    private static void passedInTime() {
        for (int length : LENGTHS) {
            for (int had = Math.max(length - 1, 1); had <= length + 1; had++) {
                int due = had >= length ? 1 : 0;
                PassedTraits x = twoWays(length);
                x.see(1, 0, had, true);
                Due.equal("promise 21: length " + length + ", in the year " + had, due, x.passed(0, 1, 0));
                x.see(1, 0, had - 1, false);
                Due.equal("promise 21: length " + length + ", just in the year " + had, due, x.passed(0, 1, 0));
            }
        }
    }

    /** 0 had it in the year 0, and is joined with 1 by a road, and by way of 2. */
    private static PassedTraits twoWays(int length) {
        PassedTraits x = Build.towns(3);
        x.lay(0, 1, length);
        x.lay(0, 2, 1);
        x.lay(2, 1, 1);
        x.see(0, 0, 0, true);
        return x;
    }

    /** "in time for all reports": also for those of towns that have it from b. */
    private static void passedInTimeForAllReports() {
        PassedTraits x = Build.towns(4);
        x.lay(0, 1, 30);
        x.lay(0, 2, 1);
        x.lay(2, 1, 1);
        x.lay(1, 3, 10);
        x.see(0, 0, 0, true);
        x.see(1, 0, 500, true);
        x.see(3, 0, 40, true);
        Due.equal("promise 21: 3 has it in the year 40", 1, x.passed(0, 1, 0));
        x.see(3, 0, 39, true);
        Due.equal("promise 16: one still, round about", 1, x.inventions(0));
        Due.equal("promise 21: 3 would have it in the year 40", 0, x.passed(0, 1, 0));
        Due.equal("promise 21: round about in time", 1, x.passed(2, 1, 0));
    }

    /** "from a (which then has it without b)". */
    private static void passedWithoutB() {
        PassedTraits x = Build.towns(4);
        x.lay(0, 1, 5);
        x.lay(1, 2, 5);
        x.see(0, 0, 0, true);
        x.see(1, 0, 999, true);
        x.see(2, 0, 999, true);
        Due.equal("promise 21: 2 has it from 1 alone", 0, x.passed(2, 1, 0));
        x.lay(0, 3, 99);
        x.lay(3, 2, 99);
        Due.equal("promise 21: 2 has it round about too", 1, x.passed(2, 1, 0));
        x.see(3, 0, 999, false);
        Due.equal("promise 21: not by a town that never has it", 0, x.passed(2, 1, 0));
    }

    /** "there is some least history": one that does not begin in the origins is enough. */
    private static void passedInSomeLeastHistory() {
        PassedTraits x = Build.row(2, 5);
        x.see(0, 0, 5, true);
        x.see(1, 0, 5, true);
        Due.equal("promise 17: the origin", 1, x.invented(0, 0));
        Due.equal("promise 21: from the origin", 1, x.passed(0, 1, 0));
        Due.equal("promise 21: to it, invented in the other one", 1, x.passed(1, 0, 0));
        x.see(0, 0, 4, true);
        Due.equal("promise 21: not with more inventions than needed", 0, x.passed(1, 0, 0));
        Due.equal("promise 21: in the least history", 1, x.passed(0, 1, 0));
    }

    /** "in which it is not invented in b". */
    private static void passedToAnOrigin() {
        PassedTraits x = Build.row(2, 5);
        x.see(0, 0, 0, true);
        x.see(1, 0, 4, true);
        Due.equal("promise 16: both", 2, x.inventions(0));
        Due.equal("promise 21: invented in b", 0, x.passed(0, 1, 0));
        Due.equal("promise 21: invented in b", 0, x.passed(1, 0, 0));
        x.forget(1, 0);
        x.see(1, 0, 5, true);
        Due.equal("promise 21: not invented in b", 1, x.passed(0, 1, 0));
        Due.equal("promise 21: invented in b in all", 0, x.passed(1, 0, 0));
    }
}
