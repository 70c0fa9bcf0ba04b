/** Promise 12: the least price of the least pages; and its exceptions. */
public final class PriceTest {
    public static void main(String[] args) {
        prices();
        exceptions();
        Check.end();
    }

    private static void due(int width, String string, int price, String rows) {
        TitleDesk desk = Check.desk("tongues 1; width 0 " + width + "; at 1 \"" + string + "\";");
        Check.due("price of " + string + " by " + width, desk.price(0, 0), price);
        Check.due("rows of " + string + " by " + width, Check.rows(desk, 0, 0), rows);
    }

    private static void prices() {
        due(4, "abcd", 0, "abcd");
        due(40, "a", 39 * 39, "a");
        due(10, "we meet again tonight", 9 + 25 + 9, "we meet/again|tonight");
        // filled one behind the other it would be 0 + 16 + 1: the price is that of all rows
        due(6, "aaa bb cc ddddd", 9 + 1 + 1, "aaa/bb cc|ddddd");
        // the last row counts as well
        due(10, "aaaa bbbb cc dddd", 1 + 9, "aaaa bbbb/cc dddd");
        // one row is cheaper than two, though a page has room for them
        due(10, "ab cd ef", 4, "ab cd ef");
        // of equal ones more words in the first row of unlike numbers
        due(4, "a b c", 1 + 9, "a b/c");
        due(4, "a b c d e", 1 + 1 + 9, "a b/c d|e");
        due(4, "a b c d e f g", 1 + 1 + 1 + 9, "a b/c d|e f/g");
        due(6, "a bbb c dddd e", 1 + 0 + 25, "a bbb/c dddd|e");
        due(4, "aaaa b c dddd e", 0 + 1 + 0 + 9, "aaaa/b c|dddd/e");
        due(4, "aaa bbb ccc", 3, "aaa/bbb|ccc");
        due(40, Check.repeat("a", 240, " "), 12,
                Check.repeat(Check.repeat(Check.repeat("a", 20, " "), 2, "/"), 6, "|"));
        // two tongues of one string by their widths
        TitleDesk desk = Check.desk("tongues 2; width 0 5; width 1 7; at 1 \"abc de\";");
        Check.due("price(0, 0)", desk.price(0, 0), 4 + 9);
        Check.due("price(0, 1)", desk.price(0, 1), 1);
    }

    private static void exceptions() {
        TitleDesk desk = Check.desk("tongues 2; at 1 \"a\";");
        int[] wrong = {-1, 2, 40, Integer.MIN_VALUE, Integer.MAX_VALUE};
        for (int w : wrong) {
            Check.dueThrown("price(" + w + ", 0)", () -> desk.price(w, 0), Check.INDEX);
            Check.dueThrown("price(" + w + ", 9)", () -> desk.price(w, 9), Check.INDEX);
            Check.dueThrown("price(0, " + w + ")", () -> desk.price(0, w), Check.ELEMENT);
        }
        Check.dueThrown("price(1, 0)", () -> desk.price(1, 0), Check.INDEX);
        Check.dueThrown("price(0, 1)", () -> desk.price(0, 1), 0);
    }
}
