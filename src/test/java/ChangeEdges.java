/** Promise 7. EveningEdgesTest runs them. */
final class ChangeEdges {
    private static final String TEXT = "tongues 2; width 0 10; width 1 4; at 5 \"one\" \"eins\"; blank 7; at 9 \"two\";";

    private ChangeEdges() {
    }

    static void all() {
        theTapesFirstBytes();
        zeroBytes();
        tonightAlone();
        noSuchTitleTongueOrNumber();
        stringsThatAreNone();
        faultFour();
    }

    private static void theTapesFirstBytes() {
        Check.sentence("A title's tongue has the TAPE's first n bytes (it is empty then) as its string");
        for (int n = 1; n <= 10; n++) {
            TitleDesk desk = Check.desk(TEXT);
            Check.feed(desk, "abcdefghijklmnopqrst");
            Check.due("change(1, 0, " + n + ")", desk.change(1, 0, n), true);
            Check.due("rows(1, 0)", Check.rows(desk, 1, 0), "abcdefghij".substring(0, n));
            Check.due("the tape is empty", desk.change(1, 0, 1), false);
            Check.due("feed", desk.feed(0, 0, 0, 0, 0), 20);
            Check.due("rows(1, 0)", Check.rows(desk, 1, 0), "abcdefghij".substring(0, n));
            Check.due("rows(1, 1)", Check.rows(desk, 1, 1), "two");
            Check.due("rows(0, 0)", Check.rows(desk, 0, 0), "one");
        }
        // the longest string there can be: 12 rows of 40
        TitleDesk wide = Check.desk("tongues 1; width 0 40; at 1 \"a\";");
        String word = Check.repeat("x", 40, "");
        Check.due("491 bytes", Check.change(wide, 0, 0, Check.repeat(word, 12, " ")), true);
        Check.due("pages", wide.pages(0, 0), 6);
        Check.due("price", wide.price(0, 0), 0);
        // the most words there can be: 20 in each of 12 rows
        Check.due("240 words", Check.change(wide, 0, 0, Check.repeat("a", 240, " ")), true);
        Check.due("pages of 240 words", wide.pages(0, 0), 6);
        Check.due("price of 240 words", wide.price(0, 0), 12);
        Check.due("the last row", Check.row(wide, 0, 0, 5, 1), Check.repeat("a", 20, " "));
        Check.due("241 words", Check.change(wide, 0, 0, Check.repeat("a", 241, " ")), false);
    }

    private static void zeroBytes() {
        Check.sentence("(0 bytes: the TEXT's again): true");
        TitleDesk desk = Check.desk(TEXT);
        Check.due("change(0, 1, 0) of an empty tape", desk.change(0, 1, 0), true);
        Check.due("rows(0, 1)", Check.rows(desk, 0, 1), "eins");
        Check.change(desk, 0, 1, "zwei");
        Check.change(desk, 0, 1, "drei");
        Check.feed(desk, "abc");
        Check.due("change(0, 1, 0)", desk.change(0, 1, 0), true);
        Check.due("rows(0, 1)", Check.rows(desk, 0, 1), "eins");
        Check.due("title(0, 4)", desk.title(0, 4), 0);
        Check.due("the tape is empty", desk.text(1), -2);
        Check.due("without title", desk.change(2, 0, 0), false);
        Check.due("without tongue", desk.change(0, 2, 0), false);
    }

    private static void tonightAlone() {
        Check.sentence("tonight");
        TitleDesk desk = Check.desk(TEXT);
        Check.change(desk, 0, 0, "a b c d e f g");
        Check.due("rows(0, 0)", Check.rows(desk, 0, 0), "a b c d/e f g");
        desk.begin();
        Check.due("rows(0, 0)", Check.rows(desk, 0, 0), "one");
        Check.due("title(0, 4)", desk.title(0, 4), 0);
        Check.change(desk, 0, 0, "tonight");
        Check.text(desk, "?");
        Check.due("a text with a fault", Check.rows(desk, 0, 0), "tonight");
        Check.text(desk, TEXT);
        Check.due("a new text", Check.rows(desk, 0, 0), "one");
        // what is shown changes with it
        desk.hand(6, true);
        Check.change(desk, 0, 1, "aaaa bbbb cccc");
        Check.due("shown(1)", desk.shown(1), 1);
        Check.due("now", Check.now(desk, 1), "cccc");
        Check.due("POS", desk.count(3), 6);
    }

    private static void noSuchTitleTongueOrNumber() {
        Check.sentence("false: no such title, tongue, n (the TAPE stays)");
        TitleDesk desk = Check.desk(TEXT);
        Check.feed(desk, "abc def ghi jkl mn o");
        int[] titles = {-1, 2, 3, 39, 40, 41, Integer.MIN_VALUE, Integer.MAX_VALUE};
        for (int title : titles) {
            Check.due("title " + title, desk.change(title, 0, 3), false);
        }
        int[] tongues = {-1, 2, 3, 4, Integer.MIN_VALUE, Integer.MAX_VALUE};
        for (int tongue : tongues) {
            Check.due("tongue " + tongue, desk.change(0, tongue, 3), false);
        }
        int[] numbers = {-1, 21, 22, 1500, 1501, Integer.MIN_VALUE, Integer.MAX_VALUE};
        for (int n : numbers) {
            Check.due("n " + n, desk.change(0, 0, n), false);
        }
        Check.due("nothing is changed", desk.title(0, 4) + desk.title(1, 4), 0);
        Check.due("rows(0, 0)", Check.rows(desk, 0, 0), "one");
        Check.due("the tape stays", desk.change(1, 1, 20), true);
        Check.due("rows(1, 1)", Check.rows(desk, 1, 1), "abc/def|ghi/jkl|mn o");
    }

    private static void stringsThatAreNone() {
        Check.sentence("a string that is none (the TAPE stays)");
        String[] none = {" ", "  ", " a", "a ", "a  b", "\"", "a\"b", "\"a\"", "\n", "a\nb", "\0", "\t", "a\u001f", "a\u007f", "a\u0080", "\u00ff"};
        for (String string : none) {
            TitleDesk desk = Check.desk(TEXT);
            Check.change(desk, 0, 0, "old");
            Check.due("change to [" + string + "]", Check.change(desk, 0, 0, string), false);
            Check.due("rows(0, 0)", Check.rows(desk, 0, 0), "old");
            Check.due("the tape stays", desk.feed(0, 0, 0, 0, 0), 40);
        }
        for (int sign = 33; sign <= 126; sign++) {
            TitleDesk desk = Check.desk(TEXT);
            Check.due("change to " + sign, Check.change(desk, 0, 0, "" + (char) sign), sign != '"');
            Check.due("sign", desk.sign(0, 0, 0, 0, 0), sign == '"' ? 'o' : sign);
        }
    }

    private static void faultFour() {
        Check.sentence("or 4 of FAULTS (the TAPE stays)");
        TitleDesk desk = Check.desk(TEXT);
        Check.due("a word of 5 by 4", Check.change(desk, 0, 1, "abcde"), false);
        Check.due("a word of 4, of the same tape", desk.change(0, 1, 4), true);
        Check.due("rows(0, 1)", Check.rows(desk, 0, 1), "abcd");
        Check.due("a later word of 5 by 4", Check.change(desk, 0, 1, "ab cdefg"), false);
        Check.due("by 10 it is none", desk.change(0, 0, 8), true);
        // the first sign is looked at as any other
        Check.due("5 signs, of which 4 would fit", Check.change(desk, 0, 1, "xabcd"), false);
        Check.due("rows(0, 1)", Check.rows(desk, 0, 1), "abcd");
        desk.change(0, 0, 0);
        Check.due("13 rows", Check.change(desk, 0, 1, Check.repeat("abc", 13, " ")), false);
        Check.due("12 rows, of the same tape", desk.change(0, 1, 47), true);
        Check.due("pages(0, 1)", desk.pages(0, 1), 6);
        Check.due("a word of 11 by 10", Check.change(desk, 0, 0, "abcdefghijk"), false);
        Check.due("a word of 10", desk.change(0, 0, 10), true);
        Check.due("1500 bytes", Check.change(desk, 0, 0, Check.repeat("a", 749, " ") + " aa"), false);
        Check.due("the tape is full still", desk.feed(0, 0, 0, 0, 0), -1);
        // a tongue without a string of its own has its own width all the same
        TitleDesk other = Check.desk("tongues 2; width 1 4; at 1 \"abc\";");
        Check.due("5 by 4", Check.change(other, 0, 1, "abcde"), false);
        Check.due("5 by 20", other.change(0, 0, 5), true);
        Check.due("rows(0, 1)", Check.rows(other, 0, 1), "abc");
    }
}
