/** Promise 5: POS 0, following, no doubts, no cuts on, no changes. */
public final class BeginTest {
    public static void main(String[] args) {
        TitleDesk desk = Check.desk("tongues 2; at 5 \"one\" \"eins\"; at 9 \"two\"; cut A 1 3; cut B 6 8;");
        desk.cut(0, true);
        desk.cut(1, true);
        Check.change(desk, 0, 0, "un");
        Check.change(desk, 1, 1, "zwei");
        desk.hand(6, false);
        Check.feed(desk, "abc");
        desk.begin();
        Check.due("POS", desk.count(3), 0);
        Check.due("FOLLOWING", desk.count(4), 1);
        Check.due("DOUBTS", desk.count(5), 0);
        Check.due("title(0, 2)", desk.title(0, 2), 4);
        Check.due("title(0, 4)", desk.title(0, 4), 0);
        Check.due("title(1, 4)", desk.title(1, 4), 0);
        Check.due("rows(0, 0)", Check.rows(desk, 0, 0), "one");
        Check.due("rows(0, 1)", Check.rows(desk, 0, 1), "eins");
        Check.due("rows(1, 1)", Check.rows(desk, 1, 1), "two");
        Check.due("shown(0)", desk.shown(0), -1);
        Check.due("heard(1) with no cut on", desk.heard(1), 1);
        Check.due("the tape stays", desk.feed(0, 0, 0, 0, 0), 40);
        Check.due("the text stays", desk.count(1), 2);

        doubtsAreGone();
        Check.end();
    }

    private static void doubtsAreGone() {
        TitleDesk desk = new TitleDesk();
        desk.heard(50);
        desk.begin();
        Check.due("count(5)", desk.count(5), 0);
        Check.due("heard(51) with no doubt ahead", desk.heard(51), 0);
        desk.heard(70);
        desk.heard(90);
        Check.due("the hand is in charge", desk.count(4), 0);
        desk.begin();
        Check.due("following again", desk.count(4), 1);
        Check.due("heard(2)", desk.heard(2), 2);
    }
}
