/** Promise 8: a bar that is heard, with gaps and doubts. */
public final class HeardTest {
    public static void main(String[] args) {
        wrongBars();
        gaps();
        doubts();
        doubtsThatGoOn();
        theHandIsInCharge();
        cuts();
        theLastBars();
        Check.end();
    }

    /** Pairs of a bar that is heard, what it answers, and the doubts behind it. */
    private static void due(TitleDesk desk, int[][] rows) {
        for (int[] row : rows) {
            Check.due("heard(" + row[0] + ")", desk.heard(row[0]), row[1]);
            Check.due("count(5) behind heard(" + row[0] + ")", desk.count(5), row[2]);
        }
    }

    private static void wrongBars() {
        TitleDesk desk = new TitleDesk();
        desk.hand(7, true);
        desk.heard(50);
        due(desk, new int[][] {{0, -1, 1}, {-1, -1, 1}, {1000, -1, 1}, {Integer.MIN_VALUE, -1, 1},
            {Integer.MAX_VALUE, -1, 1}});
        Check.due("POS", desk.count(3), 7);
        Check.due("the one heard ahead is the one in doubt still", desk.heard(51), 51);
    }

    private static void gaps() {
        TitleDesk desk = new TitleDesk();
        due(desk, new int[][] {{1, 1, 0}, {1, 1, 0}, {3, 3, 0}, {6, 6, 0}, {10, 10, 0}, {15, 10, 1}, {10, 10, 0},
            {9, 10, 1}, {14, 14, 0}, {14, 14, 0}});
        Check.due("count(3)", desk.count(3), 14);
        TitleDesk fresh = new TitleDesk();
        Check.due("heard(4) ahead of all", fresh.heard(4), 4);
        TitleDesk other = new TitleDesk();
        Check.due("heard(5) ahead of all", other.heard(5), 0);
    }

    private static void doubts() {
        TitleDesk desk = new TitleDesk();
        desk.hand(20, true);
        due(desk, new int[][] {{30, 20, 1}, {20, 20, 0}, {31, 20, 1}, {40, 20, 2}, {24, 24, 0}, {41, 24, 1},
            {41, 24, 2}, {28, 28, 0}, {1, 28, 1}, {2, 28, 2}});
        Check.due("following with two", desk.count(4), 1);
        Check.due("heard(3)", desk.heard(3), 28);
        Check.due("three doubts", desk.count(5), 3);
        Check.due("following", desk.count(4), 0);
    }

    private static void doubtsThatGoOn() {
        TitleDesk desk = new TitleDesk();
        due(desk, new int[][] {{50, 0, 1}, {51, 51, 0}, {52, 52, 0}});
        // the third doubt, if it goes on from the second
        due(desk, new int[][] {{100, 52, 1}, {200, 52, 2}, {201, 201, 0}});
        Check.due("following", desk.count(4), 1);
        // one less, the same, two more: no
        due(desk, new int[][] {{300, 201, 1}, {299, 201, 2}, {201, 201, 0}, {300, 201, 1}, {300, 201, 2}, {201, 201, 0},
            {300, 201, 1}, {302, 201, 2}, {303, 303, 0}});
        // below POS it goes not on
        due(desk, new int[][] {{99, 303, 1}, {100, 303, 2}, {303, 303, 0}, {301, 303, 1}, {302, 303, 2}, {303, 303, 0}});
        // the one ahead was no doubt
        due(desk, new int[][] {{400, 303, 1}, {304, 304, 0}, {401, 304, 1}, {402, 402, 0}});
        // from just below POS: POS itself is no doubt
        due(desk, new int[][] {{401, 402, 1}, {402, 402, 0}});
        // a hand between is the end of the doubt
        due(desk, new int[][] {{500, 402, 1}});
        desk.hand(402, true);
        due(desk, new int[][] {{501, 402, 1}, {502, 502, 0}});
    }

    private static void theHandIsInCharge() {
        TitleDesk desk = new TitleDesk();
        desk.hand(500, true);
        due(desk, new int[][] {{100, 500, 1}, {200, 500, 2}, {300, 500, 3}, {301, -1, 3}, {500, -1, 3}, {501, -1, 3},
            {0, -1, 3}});
        Check.due("POS", desk.count(3), 500);
        desk.hand(500, false);
        due(desk, new int[][] {{501, -1, 0}});
        desk.hand(500, true);
        due(desk, new int[][] {{301, 500, 1}, {501, 501, 0}});
    }

    private static void cuts() {
        TitleDesk desk = Check.desk("tongues 1; cut A 6 8; cut B 100 200;");
        desk.cut(0, true);
        desk.cut(1, true);
        due(desk, new int[][] {{4, 4, 0}, {6, 8, 0}, {7, 8, 1}, {8, 8, 0}, {12, 12, 0}});
        // bars are counted as they are, cut or not
        desk.hand(5, true);
        due(desk, new int[][] {{10, 5, 1}, {9, 9, 0}});
        due(desk, new int[][] {{150, 9, 1}, {151, 200, 0}});
    }

    private static void theLastBars() {
        TitleDesk desk = new TitleDesk();
        desk.hand(997, true);
        due(desk, new int[][] {{999, 999, 0}, {999, 999, 0}, {1000, -1, 0}, {998, 999, 1}, {999, 999, 0}});
    }
}
