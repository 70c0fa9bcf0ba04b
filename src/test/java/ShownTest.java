/** Promise 14: the title that stands at POS, its step, and the page of each tongue. */
public final class ShownTest {
    public static void main(String[] args) {
        titles();
        stepsOverBars();
        stepsOverCuts();
        moreStepsThanBars();
        pagesOfTongues();
        Check.end();
    }

    private static void dueAt(TitleDesk desk, int bar, int title, int step) {
        desk.hand(bar, true);
        Check.due("shown(0) in bar " + bar, desk.shown(0), title);
        Check.due("shown(1) in bar " + bar, desk.shown(1), step);
    }

    private static void titles() {
        TitleDesk desk = Check.desk("tongues 1; at 5 \"a\"; at 9 \"b\"; blank 12; at 20 \"c\";");
        int[][] due = {{0, -1}, {1, -1}, {4, -1}, {5, 0}, {8, 0}, {9, 1}, {11, 1}, {12, -1}, {19, -1}, {20, 2}, {999, 2}};
        for (int[] row : due) {
            dueAt(desk, row[0], row[1], row[1] == -1 ? -1 : 0);
            Check.due("shown(2) in bar " + row[0], desk.shown(2), row[1] == -1 ? -1 : 0);
            for (int what = 3; what <= 6; what++) {
                Check.due("shown(" + what + ") in bar " + row[0], desk.shown(what), -1);
            }
            Check.due("shown(-1)", desk.shown(-1), -1);
            Check.due("shown(least)", desk.shown(Integer.MIN_VALUE), -1);
            Check.due("shown(most)", desk.shown(Integer.MAX_VALUE), -1);
        }
        TitleDesk blank = Check.desk("tongues 1; blank 1;");
        dueAt(blank, 5, -1, -1);
    }

    private static void stepsOverBars() {
        // 3 steps over 20 bars begin with 0, 6 and 13 ahead
        TitleDesk desk = Check.desk("tongues 1; width 0 4; at 11 \"aaa bbb ccc ddd eee\"; blank 31;");
        int[][] due = {{11, 0}, {16, 0}, {17, 1}, {23, 1}, {24, 2}, {30, 2}};
        for (int[] row : due) {
            dueAt(desk, row[0], 0, row[1]);
            Check.due("shown(2) in bar " + row[0], desk.shown(2), row[1]);
        }
        dueAt(desk, 31, -1, -1);
        // heard bars lead it as well
        desk.hand(14, true);
        desk.heard(17);
        Check.due("shown(1) when heard", desk.shown(1), 1);
    }

    private static void stepsOverCuts() {
        // bars 11, 12, 20, 21, 29, 30 count: 2 a step
        TitleDesk desk = Check.desk("tongues 1; width 0 4; at 11 \"aaa bbb ccc ddd eee\"; blank 31;"
                + " cut A 13 20; cut B 22 29;");
        desk.cut(0, true);
        desk.cut(1, true);
        int[][] due = {{11, 0}, {12, 0}, {20, 1}, {21, 1}, {29, 2}, {30, 2}, {13, 1}, {28, 2}};
        for (int[] row : due) {
            dueAt(desk, row[0], 0, row[1]);
        }
        desk.cut(0, false);
        // 13 bars: 0, 4 and 8 ahead
        int[][] fewer = {{14, 0}, {15, 1}, {18, 1}, {19, 2}};
        for (int[] row : fewer) {
            dueAt(desk, row[0], 0, row[1]);
        }
    }

    private static void moreStepsThanBars() {
        TitleDesk desk = Check.desk("tongues 1; width 0 4; at 1 \"aaa bbb ccc ddd eee\"; at 3 \"f\"; cut A 1 2;");
        // 3 steps in 2 bars: two begin with the first one
        dueAt(desk, 1, 0, 1);
        dueAt(desk, 2, 0, 2);
        desk.cut(0, true);
        dueAt(desk, 2, 0, 2);
        Check.due("shown(2)", desk.shown(2), 2);
    }

    private static void pagesOfTongues() {
        TitleDesk desk = Check.desk("tongues 4; width 0 4; width 1 4; width 2 4; at 1 "
                + "\"aaa bbb ccc ddd eee fff ggg hhh iii\" \"aaa bbb ccc ddd eee\" \"aaa bbb ccc\" \"a\"; blank 6;");
        int[][] due = {{0, 0, 0, 0}, {1, 0, 0, 0}, {2, 1, 0, 0}, {3, 1, 1, 0}, {4, 2, 1, 0}};
        for (int step = 0; step < 5; step++) {
            dueAt(desk, step + 1, 0, step);
            for (int tongue = 0; tongue < 4; tongue++) {
                Check.due("shown(" + (tongue + 2) + ") in step " + step, desk.shown(tongue + 2), due[step][tongue]);
            }
        }
        TitleDesk two = Check.desk("tongues 2; at 1 \"a\";");
        two.hand(1, true);
        int[] pages = {0, 0, -1, -1};
        for (int tongue = 0; tongue < 4; tongue++) {
            Check.due("shown(" + (tongue + 2) + ") of two tongues", two.shown(tongue + 2), pages[tongue]);
        }
    }
}
