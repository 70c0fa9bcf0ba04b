/** Promise 11: the least pages of a title's tongue; and its exceptions. */
public final class PagesTest {
    public static void main(String[] args) {
        for (int words = 1; words <= 12; words++) {
            TitleDesk desk = Check.desk("tongues 1; width 0 4; at 1 \"" + Check.repeat("abc", words, " ") + "\";");
            Check.due(words + " rows", desk.pages(0, 0), (words + 1) / 2);
        }
        TitleDesk desk = Check.desk("tongues 4; width 0 4; width 1 5; width 2 11;"
                + " at 1 \"ab cd ef gh\"; at 2 \"ab\" \"abc de abc\" \"a a a a a a a\";");
        int[][] due = {{2, 1, 1, 1}, {1, 2, 1, 1}};
        for (int title = 0; title < 2; title++) {
            for (int tongue = 0; tongue < 4; tongue++) {
                Check.due("pages(" + title + ", " + tongue + ")", desk.pages(title, tongue), due[title][tongue]);
            }
        }
        Check.change(desk, 0, 1, "abcd abcd abcd");
        Check.due("as tonight", desk.pages(0, 1), 2);
        desk.begin();
        Check.due("the text's", desk.pages(0, 1), 1);
        exceptions(desk);
        Check.end();
    }

    private static void exceptions(TitleDesk desk) {
        int[] wrong = {-1, 4, 40, Integer.MIN_VALUE, Integer.MAX_VALUE};
        for (int w : wrong) {
            Check.dueThrown("pages(" + w + ", 0)", () -> desk.pages(w, 0), Check.INDEX);
            Check.dueThrown("pages(" + w + ", 9)", () -> desk.pages(w, 9), Check.INDEX);
            Check.dueThrown("pages(0, " + w + ")", () -> desk.pages(0, w), Check.ELEMENT);
        }
        Check.dueThrown("pages(2, 0)", () -> desk.pages(2, 0), Check.INDEX);
        TitleDesk one = Check.desk("tongues 1; at 1 \"a\";");
        Check.dueThrown("pages(0, 1) of one tongue", () -> one.pages(0, 1), Check.ELEMENT);
        Check.dueThrown("pages(0, 0)", () -> one.pages(0, 0), 0);
    }
}
