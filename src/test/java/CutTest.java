/** Promise 6: a cut is on tonight, or not; no such name: false. */
public final class CutTest {
    public static void main(String[] args) {
        namesOfTheText();
        posGoesBehind();
        againAndAgain();
        allEightInAWorstOrder();
        barsThatCount();
        barsBetweenEightCuts();
        Check.end();
    }

    private static void namesOfTheText() {
        TitleDesk desk = Check.desk("tongues 1; cut B 5 7; cut H 1 2;");
        boolean[] due = {false, true, false, false, false, false, false, true};
        for (int name = 0; name < 8; name++) {
            Check.due("cut(" + name + ", true)", desk.cut(name, true), due[name]);
            Check.due("cut(" + name + ", false)", desk.cut(name, false), due[name]);
        }
        int[] wrong = {-1, 8, 66, Integer.MIN_VALUE, Integer.MAX_VALUE};
        for (int name : wrong) {
            Check.due("cut(" + name + ", true)", desk.cut(name, true), false);
        }
        Check.due("cut(1, true) twice", desk.cut(1, true) && desk.cut(1, true), true);
        Check.due("count(2) is that of the text", desk.count(2), 2);
    }

    private static void posGoesBehind() {
        TitleDesk desk = Check.desk("tongues 1; cut A 6 8;");
        int[] bars = {5, 6, 7, 8, 9};
        int[] due = {5, 8, 8, 8, 9};
        for (int i = 0; i < bars.length; i++) {
            desk.cut(0, false);
            Check.due("hand", desk.hand(bars[i], true), bars[i]);
            desk.cut(0, true);
            Check.due("POS " + bars[i] + " when the cut comes on", desk.count(3), due[i]);
            desk.cut(0, false);
            Check.due("POS " + bars[i] + " when it is off again", desk.count(3), due[i]);
        }
        desk.hand(6, false);
        desk.heard(1);
        desk.cut(0, true);
        Check.due("POS moves with the hand in charge", desk.count(3), 8);
        Check.due("it stays in charge", desk.count(4), 0);

        desk.hand(1, true);
        desk.heard(50);
        desk.cut(0, false);
        Check.due("doubts stay", desk.count(5), 1);
        Check.due("and the bar in doubt", desk.heard(51), 51);
    }

    private static void againAndAgain() {
        TitleDesk desk = Check.desk("tongues 1; cut A 10 20; cut B 5 12; cut C 20 21; cut D 3 5; cut E 25 30;");
        for (int name = 0; name < 5; name++) {
            desk.cut(name, true);
        }
        Check.due("hand(3)", desk.hand(3, true), 21);
        Check.due("hand(2)", desk.hand(2, true), 2);
        Check.due("heard(4)", desk.heard(4), 21);
        Check.due("heard(24)", desk.heard(24), 24);
        Check.due("heard(25)", desk.heard(25), 30);
        desk.cut(2, false);
        Check.due("hand(4)", desk.hand(4, true), 20);
        desk.cut(2, true);
        Check.due("POS", desk.count(3), 21);
    }

    private static void allEightInAWorstOrder() {
        TitleDesk desk = Check.desk("tongues 1; cut H 1 100; cut G 100 200; cut F 200 300; cut E 300 400;"
                + " cut D 400 500; cut C 500 600; cut B 600 700; cut A 700 999; at 1 \"a\";");
        for (int name = 0; name < 8; name++) {
            desk.cut(name, true);
        }
        Check.due("hand(1)", desk.hand(1, true), 999);
        Check.due("title(0, 2)", desk.title(0, 2), 1);
        Check.due("hand(0)", desk.hand(0, true), 0);
        Check.due("heard(3)", desk.heard(3), 999);
        Check.due("shown(0)", desk.shown(0), 0);
    }

    private static void barsThatCount() {
        TitleDesk desk = Check.desk("tongues 1; at 10 \"a\"; at 20 \"b\"; at 30 \"c\";"
                + " cut A 5 12; cut B 18 22; cut C 11 13; cut D 14 15; cut E 20 30;");
        int[][] due = {{10, 10, 970}, {8, 10, 970}, {6, 8, 970}, {5, 8, 970}, {4, 8, 970}, {4, 0, 970}};
        for (int on = 0; on <= 5; on++) {
            for (int title = 0; title < 3; title++) {
                Check.due(on + " cuts on: title(" + title + ", 2)", desk.title(title, 2), due[on][title]);
            }
            desk.cut(on, true);
        }
    }

    private static void barsBetweenEightCuts() {
        TitleDesk desk = Check.desk("tongues 1; at 1 \"a\"; blank 101; cut A 2 10; cut B 12 20; cut C 22 30; cut D 32 40;"
                + " cut E 42 50; cut F 52 60; cut G 62 70; cut H 72 80;");
        for (int name = 7; name >= 0; name--) {
            desk.cut(name, true);
        }
        Check.due("title(0, 2)", desk.title(0, 2), 100 - 64);
    }
}
