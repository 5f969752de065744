/** The boundary cases of promises 22 to 24: one more road, the best one, the dearest report, a sentence a test. */
public final class RoadEdgeTest {
    private static final Class<IllegalArgumentException> ARGUMENT = IllegalArgumentException.class;
    private static final Class<IllegalStateException> STATE = IllegalStateException.class;
    private static final int NONE = PassedTraits.NONE;

    public static void main(String[] args) {
        ifLaidAsIfLaid();
        ifLaidLengths();
        ifLaidAnotherLength();
        ifLaidWhereLayThrows();
        ifLaidInAFullLand();
        bestRoadWithoutRoom();
        bestRoadOfOnePair();
        bestRoadLeast();
        bestRoadSmallestNumber();
        bestRoadThatExplainsNothing();
        bestRoadIsNew();
        bestRoadLengths();
        bestRoadFirstAndLastPair();
        dearestWithoutReports();
        dearestOnlyIfLess();
        dearestSmallestNumber();
        dearestFirstAndLastPair();
        dearestLeast();
        dearestBothKinds();
        dearestContradiction();
        dearestForgetsOneAtATime();
        Due.end();
    }

    /** Towns without roads that had trait 0 in the year that is told. */
    private static PassedTraits apart(int towns, int year) {
        PassedTraits x = Build.towns(towns);
        for (int t = 0; t < towns; t++) {
            x.see(t, 0, year, true);
        }
        return x;
    }

    /** "Returns about(5) behind lay(a, b, length)." */
    private static void ifLaidAsIfLaid() {
        for (int a = 0; a < 4; a++) {
            for (int b = 0; b < 4; b++) {
                for (int length = 1; length <= 99; length += 14) {
                    if (a != b) {
                        PassedTraits x = Scenes.FEW.make();
                        x.see(0, 2, 15, true);
                        x.see(2, 2, 30, true);
                        x.see(3, 2, 14, true);
                        int told = x.ifLaid(a, b, length);
                        x.lay(a, b, length);
                        Due.equal("promise 22: ifLaid(" + a + ", " + b + ", " + length + ")", x.about(5), told);
                    }
                }
            }
        }
    }

    private static void ifLaidLengths() {
        int[] years = {1, 2, 50, 98, 99};
        for (int year : years) {
            PassedTraits x = apart(2, year);
            Due.equal("promise 22: as long as the year", 1, x.ifLaid(0, 1, year));
            if (year < 99) {
                Due.equal("promise 22: a year longer", 2, x.ifLaid(1, 0, year + 1));
            }
            Due.equal("promise 5: nothing is laid", 2, x.about(5));
            Due.equal("promise 5: no road", 0, x.about(1));
        }
        Due.equal("promise 22: from the first year on", 2, apart(2, 0).ifLaid(0, 1, 1));
    }

    private static void ifLaidAnotherLength() {
        PassedTraits x = apart(2, 50);
        x.lay(0, 1, 50);
        Due.equal("promise 22: now", 1, x.about(5));
        Due.equal("promise 22: longer explains less", 2, x.ifLaid(0, 1, 51));
        Due.equal("promise 22: the same", 1, x.ifLaid(1, 0, 50));
        Due.equal("promise 6: not kept", 50, x.road(0, 1));
        x.lay(0, 1, 99);
        Due.equal("promise 22: shorter explains more", 1, x.ifLaid(0, 1, 1));
        Due.equal("promise 6: not kept", 99, x.road(0, 1));
    }

    /** "Throws IllegalStateException if lay() would throw it". */
    private static void ifLaidWhereLayThrows() {
        for (Scene scene : Scenes.ALL) {
            for (int a = -1; a <= 10; a++) {
                for (int b = -1; b <= 10; b++) {
                    int from = a;
                    int to = b;
                    PassedTraits x = scene.make();
                    String lay = Due.outcome(() -> x.lay(from, to, 5)).replaceAll("[0-9]+", "a number");
                    PassedTraits y = scene.make();
                    String ifLaid = Due.outcome(() -> y.ifLaid(from, to, 5)).replaceAll("[0-9]+", "a number");
                    Due.isTrue("promise 22: lay(" + a + ", " + b + ") " + lay + ", ifLaid " + ifLaid, lay.equals(ifLaid));
                }
            }
        }
    }

    private static void ifLaidInAFullLand() {
        Scenes.FULL.refuses("promise 22: a sixteenth", STATE, x -> x.ifLaid(0, 3, 1));
        Scenes.FULL.refuses("promise 22: the same town", ARGUMENT, x -> x.ifLaid(9, 9, 1));
        PassedTraits x = Scenes.FULL.make();
        Due.equal("promise 22: the length that it has", x.about(5), x.ifLaid(0, 9, 99));
        Scenes.FULL.changesNothing("promise 22: another length", y -> y.ifLaid(0, 9, 1));
    }

    /** "NONE if no road can be laid." */
    private static void bestRoadWithoutRoom() {
        Scenes.NOTHING.tells("promise 23: no town", NONE, x -> x.bestRoad(1));
        Scenes.ONE.tells("promise 23: one town", NONE, x -> x.bestRoad(99));
        Scenes.FULL.tells("promise 23: 15 roads", NONE, x -> x.bestRoad(1));
        for (int towns = 2; towns <= 4; towns++) {
            PassedTraits x = Build.towns(towns);
            for (int a = 0; a < towns; a++) {
                for (int b = a + 1; b < towns; b++) {
                    Due.equal("promise 23: one can be laid", 10 * a + b, x.bestRoad(50));
                    x.lay(a, b, 5);
                }
            }
            Due.equal("promise 23: all " + towns + " are joined", NONE, x.bestRoad(50));
            x.found();
            // Where three roads meet at each of four towns, the fifth can't be joined.
            Due.equal("promise 23: a town more", towns == 4 ? NONE : towns, x.bestRoad(50));
        }
    }

    /** Four towns at which three roads meet, and two without roads: between these alone a road can be laid. */
    private static void bestRoadOfOnePair() {
        PassedTraits x = apart(6, 10);
        for (int a = 0; a < 4; a++) {
            for (int b = a + 1; b < 4; b++) {
                x.lay(a, b, 99);
            }
        }
        Due.equal("promise 23: the only pair", 45, x.bestRoad(10));
        Due.equal("promise 23: the only pair, though it explains nothing", 45, x.bestRoad(11));
        x.lay(4, 5, 99);
        Due.equal("promise 23: none is left", NONE, x.bestRoad(10));
        x.tear(2, 3);
        Due.equal("promise 23: the lowest of those that are free", 23, x.bestRoad(10));
    }

    /** "for which ifLaid(a, b, length) is least". */
    private static void bestRoadLeast() {
        PassedTraits x = apart(5, 10);
        x.see(2, 1, 10, true);
        x.see(4, 1, 10, true);
        x.see(1, 2, 20, true);
        x.see(3, 2, 20, true);
        Due.equal("promise 23: for two traits", 13, x.bestRoad(10));
        x.forget(1, 0);
        Due.equal("promise 23: now for less", 24, x.bestRoad(10));
        Due.equal("promise 23: only the late one", 13, x.bestRoad(11));
        Due.equal("promise 23: in the very year", 13, x.bestRoad(20));
        Due.equal("promise 23: none explains any", 1, x.bestRoad(21));
        for (int length = 1; length <= 99; length++) {
            int best = x.bestRoad(length);
            int least = x.ifLaid(best / 10, best % 10, length);
            for (int number = 1; number < 45; number++) {
                if (number / 10 < number % 10 && number % 10 < 5) {
                    int needed = x.ifLaid(number / 10, number % 10, length);
                    Due.isTrue("promise 23: a better road than " + best + ": " + number,
                            needed > least || needed == least && best <= number);
                }
            }
            x = length % 9 == 0 ? copyOf(x) : x;
        }
    }

    /** An object made anew, so that none comes near to its 512th call. */
    private static PassedTraits copyOf(PassedTraits x) {
        PassedTraits y = Build.towns(x.about(0));
        for (int t = 0; t < x.about(0); t++) {
            for (int trait = 0; trait < 6; trait++) {
                if (x.report(t, trait, true) != NONE) {
                    y.see(t, trait, x.report(t, trait, true), true);
                }
            }
        }
        return y;
    }

    /** "among several the smallest such number". */
    private static void bestRoadSmallestNumber() {
        for (int towns = 2; towns <= 10; towns++) {
            PassedTraits x = apart(towns, 50);
            Due.equal("promise 23: all explain as much", 1, x.bestRoad(50));
            x.lay(0, 1, 50);
            if (towns > 2) {
                Due.equal("promise 23: to the next one", 2, x.bestRoad(50));
            }
        }
        PassedTraits x = Build.towns(10);
        x.see(3, 0, 5, true);
        x.see(4, 0, 5, true);
        x.see(2, 1, 5, true);
        x.see(9, 1, 5, true);
        Due.equal("promise 23: 29 is less than 34", 29, x.bestRoad(5));
    }

    /** The least need not be less than now. */
    private static void bestRoadThatExplainsNothing() {
        PassedTraits x = Build.towns(10);
        Due.equal("promise 23: no reports", 1, x.bestRoad(1));
        x.see(9, 0, 5, true);
        Due.equal("promise 23: one report", 1, x.bestRoad(1));
        x.see(9, 0, 5, false);
        Due.equal("promise 23: a contradiction", 1, x.bestRoad(1));
    }

    /** "without a road between them": another length of one that is there is not proposed. */
    private static void bestRoadIsNew() {
        PassedTraits x = apart(3, 10);
        x.lay(0, 1, 99);
        Due.equal("promise 22: a shorter one would explain more", 2, x.ifLaid(0, 1, 10));
        Due.equal("promise 23: another road does too", 2, x.bestRoad(10));
        x.lay(0, 2, 99);
        x.lay(1, 2, 99);
        Due.equal("promise 23: no other is left", NONE, x.bestRoad(10));
        PassedTraits one = apart(2, 10);
        one.found();
        one.lay(0, 1, 99);
        Due.equal("promise 23: a new one that explains nothing", 2, one.bestRoad(9));
        Due.equal("promise 6: the old one stays", 99, one.road(0, 1));
    }

    private static void bestRoadLengths() {
        PassedTraits x = Build.towns(4);
        x.see(0, 0, 1, true);
        x.see(3, 0, 1, true);
        Due.equal("promise 23: length 1 in the year 1", 3, x.bestRoad(1));
        Due.equal("promise 23: length 2 in the year 1", 1, x.bestRoad(2));
        PassedTraits y = Build.towns(4);
        y.see(1, 0, 99, true);
        y.see(3, 0, 99, true);
        Due.equal("promise 23: length 99 in the year 99", 13, y.bestRoad(99));
        y.see(3, 0, 98, true);
        Due.equal("promise 23: length 99 into the year 99, from 3 to 1", 13, y.bestRoad(99));
        y.see(1, 0, 98, true);
        Due.equal("promise 23: length 99 in the year 98", 1, y.bestRoad(99));
    }

    /** "10 * a + b of two towns, a less than b": each of the 45 pairs. */
    private static void bestRoadFirstAndLastPair() {
        for (int a = 0; a < 10; a++) {
            for (int b = a + 1; b < 10; b++) {
                PassedTraits x = Build.towns(10);
                x.see(b, 5, 7, true);
                x.see(a, 5, 7, true);
                Due.equal("promise 23: between " + a + " and " + b, 10 * a + b, x.bestRoad(7));
            }
        }
    }

    /** "NONE if there is none." */
    private static void dearestWithoutReports() {
        Scenes.NOTHING.tells("promise 24: no towns", NONE, PassedTraits::dearest);
        Scenes.ONE.tells("promise 24: no reports", NONE, PassedTraits::dearest);
        Due.equal("promise 24: ten towns without reports", NONE, Build.full(1).dearest());
    }

    /** "if that is less than now". */
    private static void dearestOnlyIfLess() {
        PassedTraits x = Build.row(2, 5);
        x.see(0, 0, 5, true);
        x.see(1, 0, 5, true);
        Due.equal("promise 24: either is explained by the other", NONE, x.dearest());
        x.see(1, 0, 4, false);
        Due.equal("promise 24: still", NONE, x.dearest());
        x.see(0, 0, 0, false);
        Due.equal("promise 24: now each costs one", 0, x.dearest());
        PassedTraits lacked = Build.towns(10);
        lacked.see(5, 5, 500, false);
        Due.equal("promise 24: had it not costs nothing", NONE, lacked.dearest());
    }

    /** "among several the smallest such number". */
    private static void dearestSmallestNumber() {
        for (int t = 9; t >= 0; t--) {
            for (int trait = 5; trait >= 0; trait--) {
                PassedTraits x = Build.towns(10);
                for (int u = t; u < 10; u++) {
                    for (int other = u == t ? trait : 0; other < 6; other++) {
                        x.see(u, other, 7, true);
                    }
                }
                Due.equal("promise 24: all cost one", 10 * t + trait, x.dearest());
            }
        }
    }

    /** "10 * t + trait of a town and a trait with reports": each of the 60. */
    private static void dearestFirstAndLastPair() {
        for (int t = 0; t < 10; t++) {
            for (int trait = 0; trait < 6; trait++) {
                PassedTraits x = Build.full(50);
                x.see(t, trait, 0, true);
                Due.equal("promise 24: the only one", 10 * t + trait, x.dearest());
                Due.equal("promise 8: it is still there", 0, x.report(t, trait, true));
            }
        }
    }

    /** "behind forget(t, trait) of which about(5) is least": what costs two goes before what costs one. */
    private static void dearestLeast() {
        PassedTraits x = Build.towns(5);
        x.lay(4, 1, 5);
        x.lay(4, 2, 5);
        x.lay(4, 3, 5);
        x.see(0, 0, 7, true);
        for (int t = 1; t <= 3; t++) {
            x.see(t, 3, 5, true);
        }
        Due.equal("promise 5: two inventions", 2, x.about(5));
        Due.equal("promise 24: town 0 costs one", 0, x.dearest());
        x.see(4, 3, 500, false);
        Due.equal("promise 5: four inventions", 4, x.about(5));
        Due.equal("promise 24: that 4 had it not costs two", 43, x.dearest());
        x.forget(4, 3);
        Due.equal("promise 5: two again", 2, x.about(5));
    }

    /** forget forgets all reports, so both kinds are forgotten together. */
    private static void dearestBothKinds() {
        PassedTraits x = Build.row(3, 10);
        x.see(0, 1, 20, true);
        x.see(2, 1, 20, true);
        x.see(1, 1, 15, false);
        x.see(1, 1, 999, true);
        Due.equal("promise 16: two", 2, x.inventions(1));
        Due.equal("promise 24: without both of town 0 it needs one", 1, x.dearest());
        x.see(0, 1, 0, true);
        x.see(2, 1, 0, true);
        Due.equal("promise 24: the same", 1, x.dearest());
        PassedTraits y = Build.row(3, 10);
        for (int t = 0; t < 3; t += 2) {
            y.see(t, 1, 20, true);
            y.see(t, 1, 9, false);
        }
        y.see(1, 1, 15, false);
        Due.equal("promise 16: two", 2, y.inventions(1));
        Due.equal("promise 24: the lowest of three", 1, y.dearest());
        Due.equal("promise 8: had is still there", 20, y.report(0, 1, true));
        Due.equal("promise 8: had not is still there", 9, y.report(0, 1, false));
    }

    /** Behind the forgetting of a contradiction, a trait has a history, and that may need inventions. */
    private static void dearestContradiction() {
        PassedTraits x = Build.towns(3);
        x.see(0, 0, 5, true);
        x.see(0, 0, 5, false);
        Due.equal("promise 24: nothing now, nothing then", NONE, x.dearest());
        x.see(1, 0, 5, true);
        Due.equal("promise 24: nothing now, one then", NONE, x.dearest());
        x.see(2, 5, 5, true);
        Due.equal("promise 24: another trait", 25, x.dearest());
    }

    /** Each is forgotten alone: two towns that lacked it lie between two that had it, and one less of these is not enough. */
    private static void dearestForgetsOneAtATime() {
        for (int trait = 0; trait <= 5; trait++) {
            PassedTraits x = Build.towns(4);
            x.lay(2, 0, 10);
            x.lay(0, 1, 10);
            x.lay(1, 3, 10);
            x.see(2, trait, 50, true);
            x.see(3, trait, 50, true);
            x.see(0, trait, 800, false);
            x.see(1, trait, 900, false);
            Due.equal("promise 16: two", 2, x.inventions(trait));
            Due.equal("promise 24: only what is known costs one", 20 + trait, x.dearest());
            x.see(0, trait, 801, true);
            x.see(1, trait, 901, true);
            Due.equal("promise 16: two, from which all are explained", 2, x.inventions(trait));
            // Without 2, town 0 would still have to have it before 1 could pass it on.
            Due.equal("promise 24: 3 alone is not needed for others", 30 + trait, x.dearest());
            Due.equal("promise 8: all is as it was", 800, x.report(0, trait, false));
            Due.equal("promise 8: all is as it was", 901, x.report(1, trait, true));
        }
    }
}
