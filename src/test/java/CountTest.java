/** Promise 16: the counts. */
public final class CountTest {
    public static void main(String[] args) {
        TitleDesk desk = Check.desk("tongues 3; width 1 30; speed 1 9; width 0 12; speed 0 7; beats 3;"
                + " at 5 \"a\"; blank 6; at 7 \"b\"; cut C 1 2; cut A 8 9; cut B 3 4;");
        due(desk, new int[] {3, 2, 3, 0, 1, 0, 12, 7, 3});
        desk.hand(40, true);
        desk.heard(20);
        desk.heard(30);
        due(desk, new int[] {3, 2, 3, 40, 1, 2, 12, 7, 3});
        desk.heard(20);
        due(desk, new int[] {3, 2, 3, 40, 0, 3, 12, 7, 3});
        desk.hand(8, false);
        desk.cut(0, true);
        due(desk, new int[] {3, 2, 3, 9, 0, 0, 12, 7, 3});
        desk.begin();
        due(desk, new int[] {3, 2, 3, 0, 1, 0, 12, 7, 3});
        // those of tongue 0 alone
        Check.text(desk, "tongues 2; width 1 30; speed 1 9;");
        due(desk, new int[] {2, 0, 0, 0, 1, 0, 20, 4, 4});
        int[] wrong = {-1, 9, 10, Integer.MIN_VALUE, Integer.MAX_VALUE};
        for (int what : wrong) {
            Check.due("count(" + what + ")", desk.count(what), -1);
        }
        Check.end();
    }

    private static void due(TitleDesk desk, int[] counts) {
        for (int what = 0; what < counts.length; what++) {
            Check.due("count(" + what + ")", desk.count(what), counts[what]);
        }
    }
}
