/** HEARD of Terms 3 and promise 8. EveningEdgesTest runs them. */
final class HeardEdges {
    private HeardEdges() {
    }

    static void all() {
        spanOfBars();
        posItself();
        upToFourAhead();
        doubtIsOneMore();
        theOneHeardAheadAndOne();
        andAbovePos();
        threeDoubts();
        theHandIsInCharge();
        atTheEnds();
    }

    private static TitleDesk at(int pos) {
        TitleDesk desk = new TitleDesk();
        desk.hand(pos, true);
        return desk;
    }

    /** What is heard, with POS and DOUBTS behind each. */
    private static void due(TitleDesk desk, int bar, int answer, int doubts) {
        Check.due("heard(" + bar + ")", desk.heard(bar), answer);
        Check.due("DOUBTS behind heard(" + bar + ")", desk.count(5), doubts);
        Check.due("POS behind heard(" + bar + ")", desk.count(3), answer);
    }

    private static void spanOfBars() {
        Check.sentence("HEARD n (1 .. 999); NONE: no such BAR");
        due(at(0), 1, 1, 0);
        due(at(999), 999, 999, 0);
        int[] wrong = {0, -1, 1000, 1001, 65537, Integer.MIN_VALUE, Integer.MAX_VALUE};
        int[] places = {0, 1, 500, 996, 999};
        for (int pos : places) {
            for (int bar : wrong) {
                TitleDesk desk = at(pos);
                Check.due("heard(" + bar + ") in " + pos, desk.heard(bar), -1);
                Check.due("POS", desk.count(3), pos);
                Check.due("DOUBTS", desk.count(5), 0);
                Check.due("FOLLOWING", desk.count(4), 1);
            }
        }
        // nor is it the one that was heard ahead
        TitleDesk desk = at(500);
        due(desk, 600, 500, 1);
        Check.due("heard(0)", desk.heard(0), -1);
        Check.due("heard(1000)", desk.heard(1000), -1);
        due(desk, 601, 601, 0);
    }

    private static void posItself() {
        Check.sentence("n is POS: nothing (DOUBTS 0)");
        TitleDesk desk = at(100);
        due(desk, 100, 100, 0);
        due(desk, 50, 100, 1);
        due(desk, 100, 100, 0);
        due(desk, 50, 100, 1);
        due(desk, 40, 100, 2);
        due(desk, 100, 100, 0);
        // POS may be the one in doubt and 1
        due(desk, 99, 100, 1);
        due(desk, 100, 100, 0);
        due(desk, 101, 101, 0);
    }

    private static void upToFourAhead() {
        Check.sentence("n from POS + 1 to POS + 4: POS is n, DOUBTS 0");
        for (int more = -3; more <= 8; more++) {
            boolean near = more >= 0 && more <= 4;
            due(at(100), 100 + more, near ? 100 + more : 100, near ? 0 : 1);
            TitleDesk desk = at(100);
            desk.heard(300);
            due(desk, 100 + more, near ? 100 + more : 100, near ? 0 : 2);
        }
        due(at(0), 4, 4, 0);
        due(at(0), 5, 0, 1);
        due(at(995), 999, 999, 0);
        due(at(994), 999, 994, 1);
    }

    private static void doubtIsOneMore() {
        Check.sentence("else a DOUBT: one more");
        int[] bars = {1, 99, 105, 999};
        for (int bar : bars) {
            TitleDesk desk = at(100);
            due(desk, bar, 100, 1);
            Check.due("FOLLOWING with 1", desk.count(4), 1);
            due(desk, bar, 100, 2);
            Check.due("FOLLOWING with 2", desk.count(4), 1);
            due(desk, bar, 100, 3);
            Check.due("FOLLOWING with 3", desk.count(4), 0);
        }
    }

    private static void theOneHeardAheadAndOne() {
        Check.sentence("if it is the one heard ahead, in doubt as well, and 1");
        for (int more = -2; more <= 3; more++) {
            TitleDesk desk = at(100);
            due(desk, 200, 100, 1);
            due(desk, 200 + more, more == 1 ? 201 : 100, more == 1 ? 0 : 2);
        }
        // the second in doubt is the one ahead then, not the first
        TitleDesk second = at(100);
        due(second, 200, 100, 1);
        due(second, 300, 100, 2);
        due(second, 201, 100, 3);
        TitleDesk third = at(100);
        due(third, 200, 100, 1);
        due(third, 300, 100, 2);
        due(third, 301, 301, 0);
        Check.due("FOLLOWING", third.count(4), 1);
        // the one heard ahead was not in doubt
        TitleDesk near = at(100);
        due(near, 200, 100, 1);
        due(near, 101, 101, 0);
        due(near, 201, 101, 1);
        TitleDesk same = at(100);
        due(same, 200, 100, 1);
        due(same, 100, 100, 0);
        due(same, 201, 100, 1);
        // with DOUBTS 0 by the hand, or an evening begun, none is in doubt
        TitleDesk hand = at(100);
        due(hand, 200, 100, 1);
        hand.hand(100, true);
        due(hand, 201, 100, 1);
        TitleDesk begun = at(0);
        due(begun, 200, 0, 1);
        begun.begin();
        due(begun, 201, 0, 1);
        // gone on with, the doubt is over
        TitleDesk on = at(100);
        due(on, 200, 100, 1);
        due(on, 201, 201, 0);
        due(on, 206, 201, 1);
        due(on, 207, 207, 0);
    }

    private static void andAbovePos() {
        Check.sentence("and above POS: POS is n, DOUBTS 0");
        TitleDesk below = at(100);
        due(below, 50, 100, 1);
        due(below, 51, 100, 2);
        due(below, 52, 100, 3);
        TitleDesk just = at(100);
        due(just, 98, 100, 1);
        due(just, 99, 100, 2);
        due(just, 100, 100, 0);
        TitleDesk above = at(100);
        due(above, 105, 100, 1);
        due(above, 106, 106, 0);
        TitleDesk last = at(100);
        due(last, 998, 100, 1);
        due(last, 999, 999, 0);
        // into a cut: the first bar behind it
        TitleDesk cut = Check.desk("tongues 1; cut A 150 160;");
        cut.cut(0, true);
        cut.hand(100, true);
        due(cut, 150, 100, 1);
        due(cut, 151, 160, 0);
    }

    private static void threeDoubts() {
        Check.sentence("With 3 DOUBTS: the HAND is in charge");
        TitleDesk desk = at(100);
        due(desk, 200, 100, 1);
        due(desk, 300, 100, 2);
        Check.due("FOLLOWING with 2", desk.count(4), 1);
        due(desk, 400, 100, 3);
        Check.due("FOLLOWING with 3", desk.count(4), 0);
        // doubts that are not in a row do not come to 3
        TitleDesk apart = at(100);
        for (int i = 0; i < 5; i++) {
            due(apart, 200, 100, 1);
            due(apart, 300, 100, 2);
            due(apart, 100, 100, 0);
        }
        Check.due("FOLLOWING", apart.count(4), 1);
    }

    private static void theHandIsInCharge() {
        Check.sentence("(nothing heard counts); NONE: .. the HAND is in charge");
        TitleDesk desk = at(100);
        desk.heard(200);
        desk.heard(300);
        desk.heard(400);
        int[] bars = {100, 101, 104, 401, 1, 999, 0, 1000};
        for (int bar : bars) {
            Check.due("heard(" + bar + ")", desk.heard(bar), -1);
            Check.due("POS", desk.count(3), 100);
            Check.due("DOUBTS", desk.count(5), 3);
            Check.due("FOLLOWING", desk.count(4), 0);
        }
        desk.hand(100, true);
        due(desk, 402, 100, 1);
        desk.hand(100, false);
        Check.due("heard(101)", desk.heard(101), -1);
        Check.due("DOUBTS", desk.count(5), 0);
    }

    private static void atTheEnds() {
        Check.sentence("POS + 4 beside the last BAR");
        TitleDesk desk = at(998);
        due(desk, 999, 999, 0);
        due(desk, 999, 999, 0);
        due(desk, 998, 999, 1);
        due(desk, 1, 999, 2);
        due(desk, 2, 999, 3);
    }
}
