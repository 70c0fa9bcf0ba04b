/** Promise 7: a title's tongue has a string of the tape, tonight. */
public final class ChangeTest {
    private static final String TEXT = "tongues 3; width 0 10; width 1 4; at 5 \"one\" \"eins\"; at 9 \"two\";";

    public static void main(String[] args) {
        changesOneTongueAlone();
        theTextsAgain();
        noSuch();
        stringsThatAreNone();
        stringsThatDoNotFit();
        changedRows();
        Check.end();
    }

    private static void changesOneTongueAlone() {
        TitleDesk desk = Check.desk(TEXT);
        Check.due("change(0, 0, ..)", Check.change(desk, 0, 0, "not one but two"), true);
        Check.due("rows(0, 0)", Check.rows(desk, 0, 0), "not one/but two");
        Check.due("rows(0, 1)", Check.rows(desk, 0, 1), "eins");
        // this one has the text's first string, which is the text's still
        Check.due("rows(0, 2)", Check.rows(desk, 0, 2), "one");
        Check.due("rows(1, 0)", Check.rows(desk, 1, 0), "two");
        Check.due("title(0, 4)", desk.title(0, 4), 1);
        Check.due("title(1, 4)", desk.title(1, 4), 0);
        Check.due("change(1, 2, ..)", Check.change(desk, 1, 2, "tre"), true);
        Check.due("rows(1, 2)", Check.rows(desk, 1, 2), "tre");
        Check.due("title(1, 4)", desk.title(1, 4), 1);
        Check.due("change of a change", Check.change(desk, 1, 2, "due"), true);
        Check.due("rows(1, 2)", Check.rows(desk, 1, 2), "due");
        desk.hand(9, true);
        Check.due("POS stays", desk.count(3), 9);
        Check.due("now", Check.now(desk, 2), "due");
        Check.due("fault stays", desk.fault(0), 0);

        // the tape's bytes behind the first n are gone, those of the change are its own
        Check.feed(desk, "abcdef");
        Check.due("change(1, 0, 3)", desk.change(1, 0, 3), true);
        Check.due("rows(1, 0)", Check.rows(desk, 1, 0), "abc");
        Check.due("the tape is empty", desk.feed(-1, -1, -1, -1, -1), 20);
        Check.due("rows(1, 0) with a new tape", Check.rows(desk, 1, 0), "abc");
    }

    private static void theTextsAgain() {
        TitleDesk desk = Check.desk(TEXT);
        Check.due("change(0, 0, 0) of none", desk.change(0, 0, 0), true);
        Check.due("title(0, 4)", desk.title(0, 4), 0);
        Check.change(desk, 0, 0, "un");
        Check.change(desk, 0, 2, "uno");
        Check.due("change(0, 0, 0)", desk.change(0, 0, 0), true);
        Check.due("rows(0, 0)", Check.rows(desk, 0, 0), "one");
        Check.due("another is changed still", desk.title(0, 4), 1);
        Check.due("rows(0, 2)", Check.rows(desk, 0, 2), "uno");
        Check.feed(desk, "abc");
        Check.due("change(0, 2, 0)", desk.change(0, 2, 0), true);
        Check.due("the tape is empty", desk.text(1), -2);
        Check.due("none is changed", desk.title(0, 4), 0);
        Check.due("rows(0, 2)", Check.rows(desk, 0, 2), "one");
        Check.change(desk, 0, 0, "one");
        Check.due("the same string is a change", desk.title(0, 4), 1);
        Check.due("pages", desk.pages(0, 0), 1);
    }

    private static void noSuch() {
        TitleDesk desk = Check.desk(TEXT);
        Check.feed(desk, "abcdefghijklmnopqrst");
        int[][] wrong = {{2, 0, 3}, {-1, 0, 3}, {0, 3, 3}, {0, -1, 3}, {0, 0, -1}, {0, 2, 21}, {2, 0, 0}, {0, 3, 0},
            {Integer.MAX_VALUE, 0, 3}, {0, Integer.MIN_VALUE, 3}, {0, 2, Integer.MAX_VALUE}, {40, 0, 3}, {0, 4, 3}};
        for (int[] w : wrong) {
            Check.due("change(" + w[0] + ", " + w[1] + ", " + w[2] + ")", desk.change(w[0], w[1], w[2]), false);
        }
        Check.due("nothing is changed", desk.title(0, 4), 0);
        Check.due("the tape stays", desk.feed(0, 0, 0, 0, 0), 40);
        Check.due("change(0, 2, 20)", desk.change(0, 2, 20), true);
    }

    private static void stringsThatAreNone() {
        TitleDesk desk = Check.desk(TEXT);
        String[] none = {" a", "a ", "a  b", " ", "a\"b", "\"a\"", "a\nb", "a\0", "a\u007f", "\u00e9", "\u001fa", "\u0080"};
        for (String string : none) {
            TitleDesk fresh = Check.desk(TEXT);
            Check.due("change to [" + string + "]", Check.change(fresh, 0, 0, string), false);
            Check.due("not changed by [" + string + "]", fresh.title(0, 4), 0);
            Check.due("the tape stays with [" + string + "]", fresh.feed(0, 0, 0, 0, 0), 40);
        }
        Check.due("all signs", Check.change(desk, 0, 2, "!#~ }A9;"), true);
        Check.due("rows(0, 2)", Check.rows(desk, 0, 2), "!#~ }A9;");
    }

    private static void stringsThatDoNotFit() {
        TitleDesk desk = Check.desk(TEXT);
        Check.due("a word too wide for 4", Check.change(desk, 0, 1, "abcde"), false);
        Check.due("the tape stays", desk.change(0, 0, 5), true);
        Check.due("rows(0, 0)", Check.rows(desk, 0, 0), "abcde");
        Check.due("a word as wide as 4", Check.change(desk, 0, 1, "abcd"), true);
        Check.due("seven pages", Check.change(desk, 1, 1, Check.repeat("abc", 13, " ")), false);
        desk.text(0);
        Check.due("six pages", Check.change(desk, 1, 1, Check.repeat("abc", 12, " ")), true);
        Check.due("pages(1, 1)", desk.pages(1, 1), 6);
        Check.due("far too many words", Check.change(desk, 1, 1, Check.repeat("a", 600, " ")), false);
        Check.due("pages(1, 1) still", desk.pages(1, 1), 6);
        desk.text(0);
        Check.due("a full tape of a word", Check.change(desk, 1, 2, Check.repeat("a", 1500, "")), false);
        desk.text(0);
        Check.due("a full tape of words", Check.change(desk, 1, 2, Check.repeat("a", 750, " ") + "a"), false);
        desk.text(0);
        Check.due("a word wider than any", Check.change(desk, 1, 2, Check.repeat("a", 1000, "")), false);
    }

    private static void changedRows() {
        TitleDesk desk = Check.desk("tongues 2; width 0 4; at 1 \"a\" \"b\";");
        Check.due("steps", desk.title(0, 1), 1);
        Check.due("price", desk.price(0, 0), 9);
        Check.change(desk, 0, 0, "aa bb cc dd ee");
        Check.due("steps as tonight", desk.title(0, 1), 3);
        Check.due("price as tonight", desk.price(0, 0), 20);
        Check.due("pages as tonight", desk.pages(0, 0), 3);
        desk.hand(999, true);
        Check.due("shown(1)", desk.shown(1), 2);
        Check.due("now", Check.now(desk, 0), "ee");
        desk.begin();
        Check.due("steps of the text", desk.title(0, 1), 1);
        Check.due("price of the text", desk.price(0, 0), 9);
    }
}
