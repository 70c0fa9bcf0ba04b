/** Promise 13: a sign of a row of a page of a title's tongue. */
public final class SignTest {
    public static void main(String[] args) {
        TitleDesk desk = Check.desk("tongues 2; width 0 4; at 1 \"x\" \"y z\"; at 5 \"ab c def ~\" \"!\";");
        Check.due("rows(0, 0)", Check.rows(desk, 0, 0), "x");
        Check.due("rows(0, 1)", Check.rows(desk, 0, 1), "y z");
        Check.due("rows(1, 0)", Check.rows(desk, 1, 0), "ab c/def|~");
        Check.due("rows(1, 1)", Check.rows(desk, 1, 1), "!");
        Check.due("a blank between words", desk.sign(1, 0, 0, 0, 2), 32);
        Check.due("behind the row", desk.sign(1, 0, 0, 0, 4), -1);
        Check.due("behind the second row", desk.sign(1, 0, 0, 1, 3), -1);
        Check.due("a row that is none", desk.sign(1, 0, 1, 1, 0), -1);
        int[] wrong = {-1, 2, 3, 12, 40, Integer.MIN_VALUE, Integer.MAX_VALUE};
        for (int w : wrong) {
            Check.due("title " + w, desk.sign(w, 0, 0, 0, 0), -1);
            Check.due("tongue " + w, desk.sign(0, w, 0, 0, 0), -1);
            Check.due("page " + w, desk.sign(1, 0, w, 0, 0), -1);
            Check.due("row " + w, desk.sign(1, 0, 0, w, 0), -1);
            Check.due("k " + w, desk.sign(0, 0, 0, 0, w), -1);
        }
        Check.due("page 1 of one", desk.sign(0, 0, 1, 0, 0), -1);
        Check.change(desk, 1, 0, "Q");
        Check.due("as tonight", Check.rows(desk, 1, 0), "Q");
        // pages of a longer string that was there are gone
        Check.due("page 1 as tonight", desk.sign(1, 0, 1, 0, 0), -1);
        Check.due("row 1 as tonight", desk.sign(1, 0, 0, 1, 0), -1);
        desk.begin();
        Check.due("the text's", Check.rows(desk, 1, 0), "ab c/def|~");
        pagesOfAChangeAreGone();
        Check.end();
    }

    private static void pagesOfAChangeAreGone() {
        TitleDesk desk = Check.desk("tongues 1; width 0 4; at 1 \"x\"; at 5 \"yy zz\"; at 9 \"aaa bbb ccc\";");
        Check.change(desk, 0, 0, "aa bb cc dd ee");
        Check.due("rows as tonight", Check.rows(desk, 0, 0), "aa/bb|cc/dd|ee");
        desk.change(0, 0, 0);
        for (int page = 0; page < 6; page++) {
            for (int row = 0; row < 2; row++) {
                int due = page + row == 0 ? 'x' : -1;
                Check.due("sign(0, 0, " + page + ", " + row + ", 0)", desk.sign(0, 0, page, row, 0), due);
            }
        }
    }
}
