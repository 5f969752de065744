/** Promises 2 to 4, and the text that seeAll (promise 13) takes down. */
public final class TextTest {
    public static void main(String[] args) {
        append();
        clearText();
        errorPosition();
        seeAll();
        Due.end();
    }

    private static void append() {
        PassedTraits x = new PassedTraits();
        Due.equal("promise 2: the first character", 1, x.append(0));
        Due.equal("promise 2: the last code", 2, x.append(255));
        Due.refused("promise 2: code -1", IllegalArgumentException.class, x, () -> x.append(-1));
        Due.refused("promise 2: code 256", IllegalArgumentException.class, x, () -> x.append(256));
        Due.refused("promise 2: the lowest int", IllegalArgumentException.class, x, () -> x.append(Integer.MIN_VALUE));
        for (int i = 3; i <= 100; i++) {
            Due.equal("promise 2: length", i, x.append('7'));
        }
        Due.refused("promise 2: a full text", IllegalStateException.class, x, () -> x.append('7'));
        Due.refused("promise 2: a wrong code and a full text", IllegalArgumentException.class, x, () -> x.append(256));
        Due.equal("promise 2: still 100", 100, x.clearText());
        Due.thrown("promise 2: appending is no action", IllegalStateException.class, x::undo);
    }

    private static void clearText() {
        PassedTraits x = Build.written("1+0:1");
        Due.equal("promise 3: previous length", 5, x.clearText());
        Due.equal("promise 3: empty now", 0, x.clearText());
        Due.equal("promise 3: appended anew", 1, x.append('3'));
        Due.equal("promise 3: the old text is gone", 1, x.errorPosition());
        Due.thrown("promise 3: clearing is no action", IllegalStateException.class, x::undo);
    }

    private static void position(String text, int due) {
        Due.equal("promise 4: the error position of '" + text + "'", due, Build.written(text).errorPosition());
    }

    private static void errorPosition() {
        String[] reports = {"0+0:0", "9-5:999", "1+3:10", "1+3:7", "4-2:0;4-2:100;4+2:9", "8+1:990;0-0:1"};
        for (String text : reports) {
            position(text, -1);
            for (int end = 0; end < text.length(); end++) {
                String begun = text.substring(0, end);
                boolean whole = begun.matches(".*:\\d+");
                position(begun, whole ? -1 : end);
            }
        }
        position(";", 0);
        position("a+0:1", 0);
        position("+0:1", 0);
        position("/+0:1", 0);
        position(":+0:1", 0);
        position("10+0:1", 1);
        position("1,0:1", 1);
        position("1 0:1", 1);
        position("1+6:1", 2);
        position("1+/:1", 2);
        position("1-+:1", 2);
        position("1+00:1", 3);
        position("1+0;1", 3);
        position("1+0:;", 4);
        position("1+0:a", 4);
        position("1+0:-1", 4);
        position("1+0:00", 5);
        position("1+0:01", 5);
        position("1+0:1:", 5);
        position("1+0:1 ", 5);
        position("1+0:12+", 6);
        position("1+0:1000", 7);
        position("1+0:999x", 7);
        position("1+0:1;;", 6);
        position("1+0:1;2", 7);
        position("1+0:1;2+6", 8);
        position("1+0:1" + (char) 0, 5);
        position((char) 255 + "+0:1", 0);
        position("9+5:999;9+5:999;9+5:999;9+5:999;9+5:999;9+5:999;9+5:999;9+5:999;9+5:999;9+5:999;9+5:999;9+5:999;9+5:", 100);
        position("9+5:999;9+5:999;9+5:999;9+5:999;9+5:999;9+5:999;9+5:999;9+5:999;9+5:999;9+5:999;9+5:999;9+5:999;0+0", 99);
    }

    private static void seeAll() {
        PassedTraits x = Build.towns(3);
        Due.refused("promise 13: an empty text", IllegalStateException.class, x, x::seeAll);
        Build.write(x, "0+0:50;0+0:40;0+0:60;1-2:5;1-2:9;1-2:7;3+1:3;9-5:999;2+5:100;2-5:0");
        Due.equal("promise 13: two are left out", 2, x.seeAll());
        Due.equal("promise 13: the earliest counts", 40, x.report(0, 0, true));
        Due.equal("promise 13: the latest counts", 9, x.report(1, 2, false));
        Due.equal("promise 13: year of three digits", 100, x.report(2, 5, true));
        Due.equal("promise 13: year 0", 0, x.report(2, 5, false));
        Due.equal("promise 13: pairs with reports", 3, x.about(2));
        Due.equal("promise 13: the text is kept", -1, x.errorPosition());
        Due.equal("promise 13: once more", 2, x.seeAll());
        Due.equal("promise 13: also if nothing becomes different it is an action, and one for all", 4, x.undo());
        Due.equal("promise 13: the first one taken back", 3, x.undo());
        Due.equal("promise 13: all reports are gone", 0, x.about(2));
        Due.equal("promise 13: the text is no part of the state", 66, x.clearText());
        Build.write(x, "0+0:5;1+0:");
        Due.refused("promise 13: no reports", IllegalStateException.class, x, x::seeAll);
        Due.equal("promise 13: nothing of it is taken down", -1, x.report(0, 0, true));
        Due.equal("promise 13: what throws is no action", 2, x.undo());
        PassedTraits one = Build.written("0+0:5");
        one.found();
        Due.equal("promise 13: one report", 0, one.seeAll());
        Due.equal("promise 13: its year", 5, one.report(0, 0, true));
        PassedTraits none = Build.written("0+0:1;4-1:2");
        Due.equal("promise 13: without towns all are left out", 2, none.seeAll());
        Due.equal("promise 13: that is an action too", 0, none.undo());
    }
}
