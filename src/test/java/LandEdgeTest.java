/** The boundary cases of towns, roads and reports: their Terms, promises 1, 5 to 12 and 14, a sentence a test. */
public final class LandEdgeTest {
    private static final Class<IndexOutOfBoundsException> INDEX = IndexOutOfBoundsException.class;
    private static final Class<IllegalStateException> STATE = IllegalStateException.class;
    private static final int NONE = PassedTraits.NONE;

    public static void main(String[] args) {
        landWithoutTowns();
        atMostTenTowns();
        foundedWithoutRoads();
        roadsJoinBothWays();
        lengths();
        oneRoadBetweenTwo();
        threeRoadsAtATown();
        anotherLengthWhereThreeMeet();
        fifteenRoads();
        tearMakesRoom();
        tearNeedsARoad();
        neighborsInOrder();
        neighborsOfNone();
        earliestAndLatestCount();
        firstReports();
        years();
        contradictions();
        eachTownWithEachTrait();
        forgets();
        aboutTowns();
        aboutInventions();
        Due.end();
    }

    /** "Creates a land without towns." */
    private static void landWithoutTowns() {
        for (int what = 0; what <= 5; what++) {
            int number = what;
            Scenes.NOTHING.tells("promise 1: about(" + what + ")", 0, x -> x.about(number));
        }
        Scenes.NOTHING.tells("promise 1: no text", 0, PassedTraits::errorPosition);
        Scenes.NOTHING.answers("promise 1: a text of no characters", 0, PassedTraits::clearText);
        Scenes.NOTHING.refuses("promise 1: no town 0", INDEX, x -> x.road(0, 0));
        Scenes.NOTHING.refuses("promise 1: nothing is remembered", STATE, PassedTraits::undo);
        Scenes.NOTHING.refuses("promise 1: slot 0 is empty", STATE, x -> x.restore(0));
        Scenes.NOTHING.refuses("promise 1: slot 1 is empty", STATE, x -> x.restore(1));
        for (int trait = 0; trait <= 5; trait++) {
            int of = trait;
            Scenes.NOTHING.tells("promise 1: no inventions", 0, x -> x.inventions(of));
            Scenes.NOTHING.tells("promise 1: no origins", 0, x -> x.invented(of, 0));
            Scenes.NOTHING.tells("promise 1: in all none", 0, x -> x.invented(of, 1));
            Scenes.NOTHING.tells("promise 1: in some none", 0, x -> x.invented(of, 2));
            Scenes.NOTHING.tells("promise 1: one choice", 1, x -> x.choices(of));
            Scenes.NOTHING.tells("promise 1: none is reached", NONE, x -> x.reached(of, 0));
        }
        Scenes.NOTHING.tells("promise 1: no road can be laid", NONE, x -> x.bestRoad(1));
        Scenes.NOTHING.tells("promise 1: no report costs", NONE, PassedTraits::dearest);
    }

    /** "There are at most 10 towns, numbered from 0 in the order in which they were founded." */
    private static void atMostTenTowns() {
        PassedTraits x = new PassedTraits();
        for (int t = 0; t < 10; t++) {
            Due.equal("promise 9: its number", t, x.found());
            Due.equal("promise 5: the towns", t + 1, x.about(0));
        }
        Due.thrown("promise 9: the eleventh", STATE, x::found);
        Due.thrown("promise 9: and again", STATE, x::found);
        Due.equal("promise 5: ten towns", 10, x.about(0));
        x.undo();
        Due.equal("promise 9: room again", 9, x.found());
        Scenes.FULL.refuses("promise 9: the eleventh", STATE, PassedTraits::found);
    }

    /** "Founds a town, without roads.", and nothing is reported of it. */
    private static void foundedWithoutRoads() {
        PassedTraits x = Build.row(2, 5);
        for (int t = 2; t < 10; t++) {
            x.found();
            Due.equal("promise 9: without roads", NONE, x.neighbor(t, 0));
            for (int trait = 0; trait < 6; trait++) {
                Due.equal("promise 9: it had nothing", NONE, x.report(t, trait, true));
                Due.equal("promise 9: it lacked nothing", NONE, x.report(t, trait, false));
            }
            Due.equal("promise 9: the roads stay", 1, x.about(1));
        }
    }

    /** "A road joins two towns, both ways", also the lowest and the highest town. */
    private static void roadsJoinBothWays() {
        for (int a = 0; a < 10; a++) {
            for (int b = 0; b < 10; b++) {
                if (a != b) {
                    PassedTraits x = Build.towns(10);
                    Due.equal("promise 10: the first road", 1, x.lay(a, b, 10 + a + b));
                    Due.equal("promise 6: there", 10 + a + b, x.road(a, b));
                    Due.equal("promise 6: back", 10 + a + b, x.road(b, a));
                    Due.equal("promise 7: there", b, x.neighbor(a, 0));
                    Due.equal("promise 7: back", a, x.neighbor(b, 0));
                    Due.equal("promise 7: no other", NONE, x.neighbor(a, 1));
                    Due.equal("promise 11: torn up from its other end", 10 + a + b, x.tear(b, a));
                    Due.equal("promise 6: gone there", NONE, x.road(a, b));
                    Due.equal("promise 6: gone back", NONE, x.road(b, a));
                }
            }
            int t = a;
            PassedTraits x = Build.full(5);
            Due.equal("promise 6: from a town to itself", NONE, x.road(t, t));
        }
    }

    /** "a length from 1 to 99 years". */
    private static void lengths() {
        PassedTraits x = Build.towns(3);
        for (int length = 1; length <= 99; length++) {
            Due.equal("promise 10: one road", 1, x.lay(0, 2, length));
            Due.equal("promise 6: its length", length, x.road(2, 0));
        }
        Due.thrown("promise 10: length 100", IllegalArgumentException.class, () -> x.lay(0, 2, 100));
        Due.thrown("promise 10: length 0", IllegalArgumentException.class, () -> x.lay(0, 2, 0));
        Due.equal("promise 11: the length that was laid last", 99, x.tear(0, 2));
    }

    /** "there is at most one road between two towns"; "or gives one that there is another length". */
    private static void oneRoadBetweenTwo() {
        PassedTraits x = Build.towns(2);
        Due.equal("promise 10: one", 1, x.lay(0, 1, 5));
        Due.equal("promise 10: longer", 1, x.lay(0, 1, 6));
        Due.equal("promise 10: shorter", 1, x.lay(1, 0, 4));
        Due.equal("promise 10: the same", 1, x.lay(1, 0, 4));
        Due.equal("promise 6: the last one counts", 4, x.road(0, 1));
        Due.equal("promise 7: one neighbor", NONE, x.neighbor(0, 1));
        Due.equal("promise 11: torn up once", 4, x.tear(0, 1));
        Due.thrown("promise 11: there is no second", STATE, () -> x.tear(0, 1));
    }

    /** "at most 3 roads meet at a town": "at one of both 3 roads meet". */
    private static void threeRoadsAtATown() {
        for (int t = 0; t < 10; t++) {
            int full = t;
            int free = (t + 4) % 10;
            Scene scene = new Scene("3 roads at town " + t, () -> {
                PassedTraits x = Build.towns(10);
                for (int i = 1; i <= 3; i++) {
                    x.lay(full, (full + i) % 10, i);
                }
                return x;
            });
            scene.refuses("promise 10: a fourth road there", STATE, x -> x.lay(full, free, 5));
            scene.refuses("promise 10: a fourth road there, told from the other end", STATE, x -> x.lay(free, full, 5));
            scene.refuses("promise 22: a fourth road there", STATE, x -> x.ifLaid(full, free, 5));
            scene.refuses("promise 22: a fourth road there, from the other end", STATE, x -> x.ifLaid(free, full, 5));
            scene.answers("promise 10: between others there is room", 4, x -> x.lay(free, (full + 1) % 10, 5));
        }
        PassedTraits x = Build.towns(4);
        Due.equal("promise 10: the second at a town", 2, x.lay(0, 1, 1) + x.lay(0, 2, 1) - 1);
        Due.equal("promise 10: the third at a town", 3, x.lay(3, 0, 1));
    }

    /** "if there is none between them, and ..": a road that is there may have another length. */
    private static void anotherLengthWhereThreeMeet() {
        for (int a = 0; a < 10; a++) {
            for (int b = 0; b < 10; b++) {
                int from = a;
                int to = b;
                boolean there = Math.abs(a - b) == 1 || Math.abs(a - b) == 9 || Math.abs(a - b) == 5;
                if (there) {
                    Scenes.FULL.answers("promise 10: another length", 15, x -> x.lay(from, to, 42));
                    Scenes.FULL.tells("promise 22: another length", 10, x -> x.ifLaid(from, to, 7) >= 0 ? 10 : 0);
                } else if (a != b) {
                    Scenes.FULL.refuses("promise 10: a road more", STATE, x -> x.lay(from, to, 42));
                    Scenes.FULL.refuses("promise 22: a road more", STATE, x -> x.ifLaid(from, to, 42));
                }
            }
        }
    }

    /** "and there are at most 15". */
    private static void fifteenRoads() {
        PassedTraits x = Build.towns(10);
        int roads = 0;
        for (int i = 0; i < 10; i++) {
            roads++;
            Due.equal("promise 10: the number of roads then", roads, x.lay(i, (i + 1) % 10, 9));
        }
        for (int i = 0; i < 5; i++) {
            roads++;
            Due.equal("promise 10: the number of roads then", roads, x.lay(i + 5, i, 9));
        }
        Due.equal("promise 5: 15 roads", 15, x.about(1));
        Due.equal("promise 10: 15 stay 15", 15, x.lay(0, 5, 8));
        Scenes.FULL.tells("promise 5: 15 roads", 15, y -> y.about(1));
        Scenes.FULL.tells("promise 23: none can be laid", NONE, y -> y.bestRoad(99));
    }

    private static void tearMakesRoom() {
        PassedTraits x = Build.full(3);
        x.tear(0, 5);
        x.tear(2, 7);
        Due.equal("promise 11: two less", 13, x.about(1));
        Due.equal("promise 10: room at both ends", 14, x.lay(0, 2, 6));
        Due.thrown("promise 10: not at a third", STATE, () -> x.lay(5, 1, 6));
        Due.equal("promise 10: but at these", 15, x.lay(7, 5, 6));
    }

    /** "Throws IllegalStateException if there is no road between them". */
    private static void tearNeedsARoad() {
        Scenes.ONE.refuses("promise 11: from a town to itself", STATE, x -> x.tear(0, 0));
        Scenes.FEW.refuses("promise 11: two roads away", STATE, x -> x.tear(0, 2));
        Scenes.FEW.refuses("promise 11: two roads away, back", STATE, x -> x.tear(2, 0));
        Scenes.FULL.refuses("promise 11: from a town to itself", STATE, x -> x.tear(9, 9));
        Scenes.FEW.answers("promise 11: a road of length 10", 10, x -> x.tear(2, 3));
        Scenes.FULL.answers("promise 11: a road of length 99", 99, x -> x.tear(9, 0));
    }

    /** "which one, from 0, the lowest town first"; "NONE if there are not so many". */
    private static void neighborsInOrder() {
        for (int t = 0; t < 10; t++) {
            int low = Math.min((t + 1) % 10, Math.min((t + 5) % 10, (t + 9) % 10));
            int high = Math.max((t + 1) % 10, Math.max((t + 5) % 10, (t + 9) % 10));
            int middle = (t + 1) % 10 + (t + 5) % 10 + (t + 9) % 10 - low - high;
            int[] due = {low, middle, high, NONE, NONE};
            int town = t;
            for (int i = 0; i < due.length; i++) {
                int k = i;
                Scenes.FULL.tells("promise 7: neighbor(" + t + ", " + k + ")", due[i], x -> x.neighbor(town, k));
            }
            Scenes.FULL.tells("promise 7: the largest k", NONE, x -> x.neighbor(town, Integer.MAX_VALUE));
        }
    }

    private static void neighborsOfNone() {
        Scenes.ONE.tells("promise 7: no roads", NONE, x -> x.neighbor(0, 0));
        Scenes.FEW.tells("promise 7: one road", 1, x -> x.neighbor(0, 0));
        Scenes.FEW.tells("promise 7: no second", NONE, x -> x.neighbor(0, 1));
        Scenes.FEW.tells("promise 7: two roads", 2, x -> x.neighbor(1, 1));
        Scenes.FEW.tells("promise 7: no third", NONE, x -> x.neighbor(1, 2));
    }

    /** "the earliest year in which it had it counts, and the latest one in which it had it not". */
    private static void earliestAndLatestCount() {
        PassedTraits x = Build.towns(10);
        int[] years = {500, 500, 501, 499, 499, 500, 1, 0, 0, 999};
        int[] hadDue = {1, 0, 0, 1, 0, 0, 1, 1, 0, 0};
        int[] lackedDue = {1, 0, 1, 0, 0, 0, 0, 0, 0, 1};
        int had = 1000;
        int lacked = -1;
        for (int i = 0; i < years.length; i++) {
            had = Math.min(had, years[i]);
            lacked = Math.max(lacked, years[i]);
            Due.equal("promise 12: had it in " + years[i], hadDue[i], x.see(9, 5, years[i], true));
            Due.equal("promise 8: the earliest", had, x.report(9, 5, true));
            Due.equal("promise 12: had it not in " + years[i], lackedDue[i], x.see(9, 5, years[i], false));
            Due.equal("promise 8: the latest", lacked, x.report(9, 5, false));
        }
        Due.equal("promise 8: no other trait", NONE, x.report(9, 4, true));
        Due.equal("promise 8: no other town", NONE, x.report(8, 5, false));
    }

    /** "NONE without such a report."; the first report counts, whichever year it tells. */
    private static void firstReports() {
        int[] years = {0, 1, 998, 999};
        for (int year : years) {
            PassedTraits x = Build.towns(1);
            Due.equal("promise 8: none that it had it", NONE, x.report(0, 0, true));
            Due.equal("promise 8: none that it had it not", NONE, x.report(0, 0, false));
            Due.equal("promise 12: the first that it had it", 1, x.see(0, 0, year, true));
            Due.equal("promise 8: its year", year, x.report(0, 0, true));
            Due.equal("promise 8: still none that it had it not", NONE, x.report(0, 0, false));
            Due.equal("promise 12: the first that it had it not", 1, x.see(0, 0, year, false));
            Due.equal("promise 8: its year", year, x.report(0, 0, false));
        }
    }

    /** "Years are 0 to 999." */
    private static void years() {
        PassedTraits x = Build.towns(1);
        for (int year = 999; year >= 0; year -= 27) {
            Due.equal("promise 12: an earlier one", 1, x.see(0, 0, year, true));
            Due.equal("promise 12: the same trait lacked later", 1, x.see(0, 1, 999 - year, false));
        }
        Due.equal("promise 8: the first year", 0, x.report(0, 0, true));
        Due.equal("promise 8: the last year", 999, x.report(0, 1, false));
    }

    /** "if that is not later than this, the reports contradict one another, and the trait has no history". */
    private static void contradictions() {
        int[] had = {0, 0, 1, 1, 1, 998, 999, 999, 500, 500, 500};
        int[] lacked = {0, 999, 0, 1, 2, 998, 998, 999, 499, 500, 501};
        for (int i = 0; i < had.length; i++) {
            boolean wrong = had[i] <= lacked[i];
            PassedTraits x = Build.towns(2);
            x.see(1, 3, had[i], true);
            x.see(1, 3, lacked[i], false);
            String told = " had " + had[i] + " lacked " + lacked[i];
            Due.equal("promise 5: contradictions" + told, wrong ? 1 : 0, x.about(3));
            Due.equal("promise 5: towns and traits with reports" + told, 1, x.about(2));
            Due.equal("promise 5: traits with inventions" + told, wrong ? 0 : 1, x.about(4));
            Due.equal("promise 5: inventions" + told, wrong ? 0 : 1, x.about(5));
            Due.equal("promise 16: inventions" + told, wrong ? NONE : 1, x.inventions(3));
            Due.equal("promise 17: origins" + told, wrong ? NONE : 2, x.invented(3, 0));
            Due.equal("promise 17: in all" + told, wrong ? NONE : 2, x.invented(3, 1));
            Due.equal("promise 17: in some" + told, wrong ? NONE : 2, x.invented(3, 2));
            Due.equal("promise 18: choices" + told, wrong ? NONE : 1, x.choices(3));
            Due.equal("promise 19: since" + told, wrong ? NONE : lacked[i] + 1, x.since(1, 3));
            Due.equal("promise 20: reached" + told, wrong ? NONE : 1, x.reached(3, 0));
            Due.equal("promise 16: the other traits have a history" + told, 0, x.inventions(2));
            Due.equal("promise 14: forgotten" + told, 1, x.forget(1, 3));
            Due.equal("promise 16: a history again" + told, 0, x.inventions(3));
        }
    }

    /** "the towns and traits with reports (each town with each trait once)": 60 at most. */
    private static void eachTownWithEachTrait() {
        PassedTraits x = Build.towns(10);
        int pairs = 0;
        for (int t = 0; t < 10; t++) {
            for (int trait = 0; trait < 6; trait++) {
                x.see(t, trait, 10, t % 2 == 0);
                pairs++;
                Due.equal("promise 5: towns and traits", pairs, x.about(2));
            }
        }
        for (int t = 0; t < 10; t++) {
            for (int trait = 0; trait < 6; trait++) {
                x.see(t, trait, 10, t % 2 == 1);
            }
            Due.equal("promise 5: both kinds count once", 60, x.about(2));
            Due.equal("promise 5: contradictions", 6 * (t + 1), x.about(3));
        }
        for (int trait = 0; trait < 6; trait++) {
            Due.equal("promise 16: no trait has a history", NONE, x.inventions(trait));
        }
        Due.equal("promise 5: no traits with inventions", 0, x.about(4));
        Due.equal("promise 5: no inventions", 0, x.about(5));
        Due.equal("promise 24: none costs", NONE, x.dearest());
    }

    /** "Returns 1 if there were any, otherwise 0.": of the one kind, of the other, of both. */
    private static void forgets() {
        for (int kinds = 0; kinds <= 3; kinds++) {
            PassedTraits x = Build.towns(10);
            if ((kinds & 1) != 0) {
                x.see(9, 5, 0, true);
            }
            if ((kinds & 2) != 0) {
                x.see(9, 5, 0, false);
            }
            x.see(8, 5, 7, true);
            x.see(9, 4, 7, false);
            Due.equal("promise 14: any of kinds " + kinds, kinds > 0 ? 1 : 0, x.forget(9, 5));
            Due.equal("promise 14: had is forgotten", NONE, x.report(9, 5, true));
            Due.equal("promise 14: had not is forgotten", NONE, x.report(9, 5, false));
            Due.equal("promise 14: the other town's are not", 7, x.report(8, 5, true));
            Due.equal("promise 14: the other trait's are not", 7, x.report(9, 4, false));
            Due.equal("promise 14: none are left", 0, x.forget(9, 5));
            Due.equal("promise 12: what was forgotten does not count", 1, x.see(9, 5, 999, true));
            Due.equal("promise 8: the new one does", 999, x.report(9, 5, true));
        }
    }

    private static void aboutTowns() {
        for (int towns = 0; towns <= 10; towns++) {
            PassedTraits x = Build.row(towns, 5);
            Due.equal("promise 5: the towns", towns, x.about(0));
            Due.equal("promise 5: the roads", Math.max(0, towns - 1), x.about(1));
            Due.equal("promise 5: no reports", 0, x.about(2));
        }
    }

    /** 4 and 5, from no trait with inventions to all six, each with ten. */
    private static void aboutInventions() {
        PassedTraits x = Build.towns(10);
        for (int trait = 0; trait < 6; trait++) {
            for (int t = 0; t < 10; t++) {
                x.see(t, trait, 0, true);
                Due.equal("promise 5: the inventions of all traits", 10 * trait + t + 1, x.about(5));
            }
            Due.equal("promise 5: the traits with inventions", trait + 1, x.about(4));
        }
        x.see(0, 0, 0, false);
        Due.equal("promise 5: a trait without a history does not count", 5, x.about(4));
        Due.equal("promise 5: nor do its inventions", 50, x.about(5));
        PassedTraits lacked = Build.towns(10);
        for (int t = 0; t < 10; t++) {
            lacked.see(t, 5, 999, false);
        }
        Due.equal("promise 5: had it not alone needs no invention", 0, lacked.about(4));
        Due.equal("promise 5: and adds none", 0, lacked.about(5));
    }
}
