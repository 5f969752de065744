/** The boundary cases of the text: "TEXT" in the Terms, promises 2 to 4 and 13, a sentence a test. */
public final class TextEdgeTest {
    private static final Class<IllegalStateException> STATE = IllegalStateException.class;
    private static final int NONE = PassedTraits.NONE;
    private static final String DIGITS = "0123456789";

    public static void main(String[] args) {
        atMostHundredCharacters();
        eachCodeIsACharacter();
        previousLength();
        emptyTextEndsTooSoon();
        eachSignAtEachPlace();
        eachYear();
        noZerosAhead();
        noYearBehind999();
        firstOfSeveralErrors();
        endsTooSoon();
        fullTextOfReports();
        fullTextWithErrors();
        townsDoNotMatter();
        textIsNoState();
        seeAllNeedsReports();
        seeAllOfOne();
        seeAllLeavesOut();
        seeAllInItsOrder();
        seeAllKeepsTheText();
        seeAllIsOneAction();
        seeAllEdgesOfReports();
        Due.end();
    }

    /** "a text buffer of at most 100 characters"; "Returns the new length of the text." */
    private static void atMostHundredCharacters() {
        PassedTraits x = new PassedTraits();
        for (int length = 1; length <= 100; length++) {
            Due.equal("promise 2: the length", length, x.append(' '));
        }
        for (int i = 0; i < 3; i++) {
            Due.thrown("promise 2: the 101st", STATE, () -> x.append(' '));
        }
        Due.equal("promise 2: 100 are left there", 100, x.clearText());
        Due.equal("promise 2: room again", 1, x.append(' '));
        Scene full = new Scene("99 characters", () -> Build.written(Scenes.LONGEST.substring(0, 99)));
        full.answers("promise 2: the 100th", 100, y -> y.append('0'));
        full.answers("promise 2: the 100th makes it reports", NONE, y -> {
            y.append('0');
            return y.errorPosition();
        });
        Scenes.FULL.refuses("promise 2: a full text", STATE, y -> y.append('0'));
    }

    /** "c: character code, 0 to 255", each of them in a text of its own. */
    private static void eachCodeIsACharacter() {
        for (int c = 0; c <= 255; c++) {
            PassedTraits x = new PassedTraits();
            Due.equal("promise 2: append(" + c + ")", 1, x.append(c));
            Due.equal("promise 2: once more", 2, x.append(c));
            Due.equal("promise 3: both are emptied", 2, x.clearText());
        }
    }

    /** "Returns the previous length of the text." */
    private static void previousLength() {
        for (int length = 0; length <= 100; length++) {
            PassedTraits x = Build.written(Scenes.LONGEST.substring(0, length));
            Due.equal("promise 3: the previous length", length, x.clearText());
            Due.equal("promise 3: an empty text", 0, x.clearText());
            Due.equal("promise 3: it ends too soon", 0, x.errorPosition());
        }
    }

    /** "if the text ends too soon, it is the length of the text": 0, if it is empty. */
    private static void emptyTextEndsTooSoon() {
        Scenes.NOTHING.tells("promise 4: the empty text", 0, PassedTraits::errorPosition);
    }

    private static int position(String text) {
        return Build.written(text).errorPosition();
    }

    /** Of all 256 characters, behind a beginning, these alone are allowed; behind some of them the text is reports. */
    private static void allowed(String begun, String signs, boolean wholeThen) {
        for (int c = 0; c <= 255; c++) {
            boolean fits = signs.indexOf(c) >= 0;
            // A semicolon is never the end of reports.
            int due = !fits ? begun.length() : wholeThen && c != ';' ? NONE : begun.length() + 1;
            Due.equal("promise 4: '" + begun + "' and the character " + c, due, position(begun + (char) c));
        }
    }

    /** "the index of the first character that these rules do not allow at its place". */
    private static void eachSignAtEachPlace() {
        String[] ahead = {"", "7-5:999;", "0+0:0;9-5:10;"};
        for (String before : ahead) {
            allowed(before, DIGITS, false);
            allowed(before + "0", "+-", false);
            allowed(before + "9", "+-", false);
            allowed(before + "3+", "012345", false);
            allowed(before + "3-", "012345", false);
            allowed(before + "3+0", ":", false);
            allowed(before + "3-5", ":", false);
            allowed(before + "3+0:", DIGITS, true);
            allowed(before + "3+0:0", ";", false);
            allowed(before + "3+0:1", DIGITS + ";", true);
            allowed(before + "3+0:9", DIGITS + ";", true);
            allowed(before + "3+0:10", DIGITS + ";", true);
            allowed(before + "3+0:99", DIGITS + ";", true);
            allowed(before + "3+0:100", ";", false);
            allowed(before + "3+0:999", ";", false);
        }
    }

    /** "a year without zeros ahead (0 to 999)". */
    private static void eachYear() {
        for (int year = 0; year <= 999; year++) {
            PassedTraits x = Build.written("0+0:" + year);
            Due.equal("promise 4: the year " + year, NONE, x.errorPosition());
            x.found();
            Due.equal("promise 13: the year " + year, 0, x.seeAll());
            Due.equal("promise 13: the year " + year + " is seen", year, x.report(0, 0, true));
        }
    }

    /** "a digit is not allowed if no year begins with it and those before it": behind a zero. */
    private static void noZerosAhead() {
        for (int digit = 0; digit <= 9; digit++) {
            Due.equal("promise 4: a zero ahead of " + digit, 5, position("0+0:0" + digit));
            Due.equal("promise 4: a zero ahead of 1" + digit, 5, position("0+0:01" + digit + ";"));
            Due.equal("promise 4: two zeros ahead", 5, position("0+0:00" + digit));
            Due.equal("promise 4: a zero ahead later", 12, position("0+0:10;1-5:0" + digit));
        }
        Due.equal("promise 4: the zero alone", NONE, position("0+0:0"));
        Due.equal("promise 4: zeros behind", NONE, position("0+0:100"));
    }

    /** "a digit is not allowed if no year begins with it and those before it": the fourth. */
    private static void noYearBehind999() {
        for (int digit = 0; digit <= 9; digit++) {
            Due.equal("promise 4: 100" + digit, 7, position("0+0:100" + digit));
            Due.equal("promise 4: 999" + digit, 7, position("0+0:999" + digit));
        }
        Due.equal("promise 4: 999", NONE, position("0+0:999"));
        Due.equal("promise 4: 2147483648", 7, position("0+0:2147483648"));
    }

    private static void firstOfSeveralErrors() {
        Due.equal("promise 4: the first is told", 1, position("00;;+:"));
        Due.equal("promise 4: what comes behind does not heal it", 5, position("0+0:0x;1-1:5"));
        Due.equal("promise 4: a semicolon ahead", 0, position(";0+0:5"));
        Due.equal("promise 4: a semicolon alone", 0, position(";"));
        Due.equal("promise 4: two semicolons", 6, position("0+0:5;;1+0:5"));
    }

    private static void endsTooSoon() {
        String text = "0+0:5;1-5:10";
        for (int length = 0; length <= text.length(); length++) {
            boolean whole = length == 5 || length >= 11;
            Due.equal("promise 4: the first " + length, whole ? NONE : length, position(text.substring(0, length)));
        }
    }

    /** Reports of 100 characters, the last a digit. */
    private static void fullTextOfReports() {
        Scenes.FULL.tells("promise 4: 100 characters", NONE, PassedTraits::errorPosition);
        Scenes.FULL.answers("promise 13: 100 characters", 0, PassedTraits::seeAll);
        Scenes.FULL.answers("promise 13: the eleventh of them", 10, x -> x.seeAll() + x.report(0, 4, true));
        Scenes.FULL.answers("promise 13: the last of them", 30, x -> x.seeAll() + x.report(2, 0, true));
        PassedTraits x = Build.towns(9);
        Build.write(x, Scenes.LONGEST);
        Due.equal("promise 13: one is about town 9", 1, x.seeAll());
        Due.equal("promise 13: twelve are not", 12, x.about(2));
    }

    private static void fullTextWithErrors() {
        String text = Scenes.LONGEST;
        Due.equal("promise 4: it ends too soon behind 100", 100, position(text.substring(0, 95) + "-3:0;"));
        Due.equal("promise 4: the 100th is wrong", 99, position(text.substring(0, 99) + "x"));
        Due.equal("promise 4: the first of 100 is wrong", 0, position("x" + text.substring(1)));
    }

    /** "Whether towns are there does not matter for it." */
    private static void townsDoNotMatter() {
        for (int towns = 0; towns <= 10; towns++) {
            for (int t = 0; t <= 9; t++) {
                PassedTraits x = Build.towns(towns);
                Build.write(x, t + "+0:5");
                Due.equal("promise 4: town " + t + " of " + towns, NONE, x.errorPosition());
            }
        }
    }

    /** "the state, which consists of everything but the text and the save slots". */
    private static void textIsNoState() {
        PassedTraits x = Build.written("0+0:5");
        x.found();
        x.save(0);
        x.seeAll();
        Build.write(x, ";1");
        Due.equal("promise 15: undo", 1, x.undo());
        Due.equal("promise 15: undo leaves the text", 7, x.errorPosition());
        x.restore(0);
        Due.equal("promise 28: restore leaves the text", 7, x.errorPosition());
        x.clearText();
        x.restore(0);
        Due.equal("promise 28: restore brings no text back", 0, x.clearText());
        Due.thrown("promise 3: to append or to clear is no action", STATE, x::undo);
    }

    /** "Throws IllegalStateException if the text is not reports". */
    private static void seeAllNeedsReports() {
        String[] texts = {"", "0", "0+", "0+0", "0+0:", "0+0:5;", "0+0:05", "0+0:1000", "0+6:5", "x", "0+0:5;0+0:6;x"};
        for (String text : texts) {
            Scene scene = new Scene("the text '" + text + "'", () -> {
                PassedTraits x = Build.towns(2);
                Build.write(x, text);
                return x;
            });
            scene.refuses("promise 13: no reports", STATE, PassedTraits::seeAll);
        }
    }

    /** "Reports as a text are one or more reports". */
    private static void seeAllOfOne() {
        PassedTraits x = Build.towns(1);
        Build.write(x, "0-3:0");
        Due.equal("promise 13: one report", 0, x.seeAll());
        Due.equal("promise 13: had it not in the year 0", 0, x.report(0, 3, false));
        Due.equal("promise 13: nothing else", 1, x.about(2));
        Due.equal("promise 13: nothing of when it had it", NONE, x.report(0, 3, true));
    }

    /** "those about towns that are not there are left out"; "Returns how many are left out." */
    private static void seeAllLeavesOut() {
        for (int towns = 0; towns <= 10; towns++) {
            PassedTraits x = Build.towns(towns);
            for (int t = 9; t >= 0; t--) {
                Build.write(x, t + "+" + t % 6 + ":" + t + (t > 0 ? ";" : ""));
            }
            Due.equal("promise 13: of ten, with " + towns + " towns", 10 - towns, x.seeAll());
            Due.equal("promise 13: taken down, with " + towns + " towns", towns, x.about(2));
            for (int t = 0; t < towns; t++) {
                Due.equal("promise 13: about town " + t, t, x.report(t, t % 6, true));
            }
            if (towns < 10) {
                x.found();
                Due.equal("promise 13: left out is not kept for later", NONE, x.report(towns, towns % 6, true));
            }
        }
    }

    /** "Takes all reports of the text down, in their order": what counts of them is the same as by see. */
    private static void seeAllInItsOrder() {
        PassedTraits x = Build.written("0+0:5;0+0:4;0+0:6;0-0:5;0-0:6;0-0:4;0+1:9;0-1:9");
        x.found();
        Due.equal("promise 13: none left out", 0, x.seeAll());
        Due.equal("promise 13: the earliest", 4, x.report(0, 0, true));
        Due.equal("promise 13: the latest", 6, x.report(0, 0, false));
        Due.equal("promise 13: two contradict one another", 2, x.about(3));
        PassedTraits y = Build.written("0+0:500;0-0:500");
        y.found();
        y.see(0, 0, 400, true);
        y.see(0, 0, 600, false);
        y.seeAll();
        Due.equal("promise 13: an earlier report goes on counting", 400, y.report(0, 0, true));
        Due.equal("promise 13: a later report goes on counting", 600, y.report(0, 0, false));
    }

    /** "Keeps the text." */
    private static void seeAllKeepsTheText() {
        PassedTraits x = Build.towns(2);
        Build.write(x, "0+0:5;1-1:6");
        x.seeAll();
        x.forget(0, 0);
        Due.equal("promise 13: the text is there still", NONE, x.errorPosition());
        x.seeAll();
        Due.equal("promise 13: seen again", 5, x.report(0, 0, true));
        Due.equal("promise 13: with its length", 11, x.clearText());
    }

    /** "(One action.)", however many reports there are, and also if all are left out. */
    private static void seeAllIsOneAction() {
        PassedTraits x = Build.towns(1);
        Build.write(x, Scenes.LONGEST);
        x.seeAll();
        Due.equal("promise 13: one state is remembered for 13 reports", 1, x.undo());
        Due.equal("promise 13: all are taken back at once", 0, x.about(2));
        PassedTraits none = Build.written("9+5:5;8+5:5");
        Due.equal("promise 13: all left out", 2, none.seeAll());
        Due.equal("promise 13: an action all the same", 0, none.undo());
        PassedTraits same = Build.towns(1);
        Build.write(same, "0+0:5");
        same.seeAll();
        same.seeAll();
        Due.equal("promise 13: an action also if nothing becomes different", 2, same.undo());
        Due.equal("promise 13: seen by the first of both", 5, same.report(0, 0, true));
    }

    /** The lowest and the highest town, trait and year. */
    private static void seeAllEdgesOfReports() {
        PassedTraits x = Build.towns(10);
        Build.write(x, "0+0:0;0-5:999;9+5:999;9-0:0");
        Due.equal("promise 13: none is left out", 0, x.seeAll());
        Due.equal("promise 13: town 0, trait 0, year 0", 0, x.report(0, 0, true));
        Due.equal("promise 13: town 0, trait 5, year 999", 999, x.report(0, 5, false));
        Due.equal("promise 13: town 9, trait 5, year 999", 999, x.report(9, 5, true));
        Due.equal("promise 13: town 9, trait 0, year 0", 0, x.report(9, 0, false));
        Due.equal("promise 13: no others", 4, x.about(2));
    }
}
