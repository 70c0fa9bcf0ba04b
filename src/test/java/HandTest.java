/** Promise 9: the hand leads; whether it is following behind that is told. */
public final class HandTest {
    public static void main(String[] args) {
        TitleDesk desk = Check.desk("tongues 1; at 5 \"a\"; cut A 6 8;");
        Check.due("hand(0, true)", desk.hand(0, true), 0);
        Check.due("hand(999, true)", desk.hand(999, true), 999);
        Check.due("hand(5, true)", desk.hand(5, true), 5);
        Check.due("hand(3, true), backwards", desk.hand(3, true), 3);
        Check.due("count(3)", desk.count(3), 3);
        Check.due("count(4)", desk.count(4), 1);
        Check.due("hand(7, false)", desk.hand(7, false), 7);
        Check.due("count(4)", desk.count(4), 0);
        Check.due("heard(8)", desk.heard(8), -1);
        Check.due("hand(7, true)", desk.hand(7, true), 7);
        Check.due("heard(8)", desk.heard(8), 8);

        desk.heard(100);
        desk.heard(200);
        Check.due("doubts", desk.count(5), 2);
        int[] wrong = {-1, 1000, Integer.MIN_VALUE, Integer.MAX_VALUE};
        for (int bar : wrong) {
            Check.due("hand(" + bar + ", false)", desk.hand(bar, false), -1);
        }
        Check.due("POS stays", desk.count(3), 8);
        Check.due("following stays", desk.count(4), 1);
        Check.due("doubts stay", desk.count(5), 2);
        Check.due("hand(9, true)", desk.hand(9, true), 9);
        Check.due("doubts are gone", desk.count(5), 0);

        desk.cut(0, true);
        Check.due("hand(6, true) in a cut", desk.hand(6, true), 8);
        Check.due("hand(7, true) in a cut", desk.hand(7, true), 8);
        Check.due("hand(5, true)", desk.hand(5, true), 5);
        Check.due("hand(8, true)", desk.hand(8, true), 8);
        desk.heard(1);
        desk.heard(1);
        desk.heard(1);
        Check.due("in charge by doubts", desk.count(4), 0);
        Check.due("hand(-1, true)", desk.hand(-1, true), -1);
        Check.due("in charge still", desk.count(4), 0);
        Check.due("hand(8, true)", desk.hand(8, true), 8);
        Check.due("count(4)", desk.count(4), 1);
        Check.due("count(5)", desk.count(5), 0);
        Check.end();
    }
}
