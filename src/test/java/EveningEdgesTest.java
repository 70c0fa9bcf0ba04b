/** Terms 3 and promises 5 to 9, 14 to 16: a test for each sentence that names an edge, at it and just beside it. */
public final class EveningEdgesTest {
    private static final int[] FAR = {-1, -2, 1000, 1001, 65537, Integer.MIN_VALUE, Integer.MAX_VALUE};

    public static void main(String[] args) {
        begun();
        cutsTakeTheirBars();
        againAndAgain();
        noSuchName();
        HeardEdges.all();
        handsThatLead();
        noSuchBarOfTheHand();
        ChangeEdges.all();
        nothingIsShown();
        shownPages();
        noneForAnotherWhat();
        signsOfNow();
        counts();
        Check.end();
    }

    private static void begun() {
        Check.sentence("begin(): POS is 0 (ahead of all BARS), FOLLOWING, no DOUBTS, no cuts are on, no changes");
        TitleDesk desk = Check.desk("tongues 2; at 1 \"a\"; at 5 \"b\" \"c\"; cut A 1 3; cut H 6 9;");
        for (int charge = 0; charge < 2; charge++) {
            desk.cut(0, true);
            desk.cut(7, true);
            Check.change(desk, 0, 0, "x");
            Check.change(desk, 1, 1, "y");
            desk.hand(5, charge == 0);
            for (int i = 0; i < 3; i++) {
                desk.heard(100);
            }
            desk.begin();
            int[] due = {2, 2, 2, 0, 1, 0, 20, 4, 4};
            for (int what = 0; what < due.length; what++) {
                Check.due("count(" + what + ")", desk.count(what), due[what]);
            }
            Check.due("nothing is shown", desk.shown(0), -1);
            Check.due("title(0, 2)", desk.title(0, 2), 4);
            Check.due("title(1, 2)", desk.title(1, 2), 995);
            Check.due("title(0, 4)", desk.title(0, 4), 0);
            Check.due("title(1, 4)", desk.title(1, 4), 0);
            Check.due("rows(0, 0)", Check.rows(desk, 0, 0), "a");
            Check.due("rows(1, 1)", Check.rows(desk, 1, 1), "c");
            Check.due("heard(1)", desk.heard(1), 1);
        }
        Check.sentence("begin(): begin(). (the tape and the fault are not the evening's)");
        Check.feed(desk, "tongues 9;");
        desk.text(10);
        Check.feed(desk, "tongues 1;");
        desk.begin();
        Check.due("fault(0)", desk.fault(0), 2);
        Check.due("text(10)", desk.text(10), 0);
        TitleDesk fresh = new TitleDesk();
        fresh.begin();
        fresh.begin();
        Check.due("of a new desk", fresh.count(3), 0);
    }

    private static void cutsTakeTheirBars() {
        Check.sentence("A cut that is on takes its BARS from its first B up to the one ahead of its second one;"
                + " POS in such: it is the first BAR behind");
        int[][] spans = {{1, 2}, {1, 999}, {6, 9}, {998, 999}};
        for (int[] span : spans) {
            TitleDesk desk = Check.desk("tongues 1; cut D " + span[0] + " " + span[1] + ";");
            int[] bars = {0, span[0] - 1, span[0], span[0] + 1, span[1] - 1, span[1], span[1] + 1, 999};
            for (int bar : bars) {
                if (bar > 999) {
                    continue;
                }
                int due = bar >= span[0] && bar < span[1] ? span[1] : bar;
                String name = "cut " + span[0] + " " + span[1] + ", bar " + bar + ": ";
                desk.cut(3, false);
                Check.due(name + "not on", desk.hand(bar, true), bar);
                Check.due(name + "cut", desk.cut(3, true), true);
                Check.due(name + "when it comes on", desk.count(3), due);
                Check.due(name + "by the hand", desk.hand(bar, true), due);
                desk.cut(3, false);
                Check.due(name + "when it is off again", desk.count(3), due);
                desk.cut(3, true);
                desk.hand(Math.max(0, bar - 1), true);
                int from = desk.count(3);
                int heard = bar < 1 ? -1 : bar < from ? from : due;
                Check.due(name + "heard", desk.heard(bar), heard);
            }
        }
    }

    private static void againAndAgain() {
        Check.sentence("(again and again)");
        TitleDesk desk = Check.desk("tongues 1; cut A 8 9; cut B 7 8; cut C 6 7; cut D 5 6; cut E 4 5; cut F 3 4; cut G 2 3; cut H 1 2;");
        for (int name = 0; name < 8; name++) {
            desk.cut(name, true);
        }
        for (int bar = 1; bar <= 8; bar++) {
            Check.due("hand(" + bar + ")", desk.hand(bar, true), 9);
        }
        desk.hand(0, true);
        Check.due("heard(1)", desk.heard(1), 9);
        desk.cut(3, false);
        Check.due("with one off", desk.hand(1, true), 5);
        desk.cut(3, true);
        Check.due("when it comes on", desk.count(3), 9);
        TitleDesk lap = Check.desk("tongues 1; cut A 10 20; cut B 15 30; cut C 5 16; cut D 30 31; cut E 32 40;");
        for (int name = 0; name < 5; name++) {
            lap.cut(name, true);
        }
        Check.due("hand(5)", lap.hand(5, true), 31);
        Check.due("hand(4)", lap.hand(4, true), 4);
    }

    private static void noSuchName() {
        Check.sentence("A cut is on tonight, or not: true; false: no such NAME (0 .. 7) in the TEXT.");
        TitleDesk desk = Check.desk("tongues 1; at 1 \"a\"; blank 11; cut A 2 3; cut H 4 5;");
        for (int name = -2; name <= 9; name++) {
            Check.due("cut(" + name + ", true)", desk.cut(name, true), name == 0 || name == 7);
            Check.due("cut(" + name + ", false)", desk.cut(name, false), name == 0 || name == 7);
            Check.due("twice", desk.cut(name, false), name == 0 || name == 7);
        }
        for (int name : FAR) {
            Check.due("cut(" + name + ", true)", desk.cut(name, true), false);
        }
        Check.due("no cut is on", desk.title(0, 2), 10);
        Check.due("'A'", desk.cut('A', true), false);
        // a cut of the text ahead is none of this one
        Check.text(desk, "tongues 1; cut B 2 3;");
        Check.due("cut(0, true)", desk.cut(0, true), false);
        Check.due("cut(1, true)", desk.cut(1, true), true);
    }

    private static void handsThatLead() {
        Check.sentence("HAND: POS is n (0 .. 999), DOUBTS 0; whether it is FOLLOWING behind that is told");
        int[] bars = {0, 1, 500, 998, 999, 0};
        TitleDesk desk = new TitleDesk();
        for (int bar : bars) {
            for (int following = 0; following < 2; following++) {
                desk.hand(bar, true);
                desk.heard(bar > 500 ? 1 : 900);
                Check.due("a doubt", desk.count(5), 1);
                Check.due("hand(" + bar + ")", desk.hand(bar, following == 1), bar);
                Check.due("POS", desk.count(3), bar);
                Check.due("FOLLOWING", desk.count(4), following);
                Check.due("DOUBTS", desk.count(5), 0);
            }
        }
        for (int i = 0; i < 3; i++) {
            desk.heard(900);
        }
        Check.due("in charge by doubts", desk.count(4), 0);
        desk.hand(10, false);
        Check.due("DOUBTS 0", desk.count(5), 0);
        Check.due("in charge", desk.heard(11), -1);
        desk.hand(10, true);
        Check.due("following", desk.heard(11), 11);
    }

    private static void noSuchBarOfTheHand() {
        Check.sentence("HAND: POS then; NONE, and nothing happens: no such BAR");
        TitleDesk desk = new TitleDesk();
        desk.hand(7, true);
        desk.heard(50);
        for (int bar : FAR) {
            Check.due("hand(" + bar + ", false)", desk.hand(bar, false), -1);
            Check.due("POS", desk.count(3), 7);
            Check.due("FOLLOWING", desk.count(4), 1);
            Check.due("DOUBTS", desk.count(5), 1);
        }
        Check.due("the doubt goes on", desk.heard(51), 51);
        desk.hand(7, false);
        for (int bar : FAR) {
            Check.due("hand(" + bar + ", true)", desk.hand(bar, true), -1);
            Check.due("FOLLOWING", desk.count(4), 0);
        }
    }

    private static void nothingIsShown() {
        Check.sentence("SHOWN at POS: the title that stands there, by the STEP of POS; nothing ahead of all, or behind a blank");
        TitleDesk desk = Check.desk("tongues 1; at 3 \"a\"; at 5 \"b\"; blank 6; blank 8; at 9 \"c\"; blank 998; at 999 \"d\";");
        int[][] due = {{0, -1}, {1, -1}, {2, -1}, {3, 0}, {4, 0}, {5, 1}, {6, -1}, {7, -1}, {8, -1}, {9, 2}, {997, 2}, {998, -1}, {999, 3}};
        for (int[] row : due) {
            desk.hand(row[0], true);
            Check.due("shown(0) in " + row[0], desk.shown(0), row[1]);
            Check.due("shown(1) in " + row[0], desk.shown(1), row[1] == -1 ? -1 : 0);
            Check.due("shown(2) in " + row[0], desk.shown(2), row[1] == -1 ? -1 : 0);
            Check.due("now in " + row[0], desk.now(0, 0, 0), row[1] == -1 ? -1 : 'a' + row[1]);
        }
        TitleDesk first = Check.desk("tongues 1; at 1 \"a\";");
        Check.due("POS 0", first.shown(0), -1);
        first.heard(1);
        Check.due("POS 1", first.shown(0), 0);
        // a title that is all cut is passed over
        TitleDesk cut = Check.desk("tongues 1; at 1 \"a\"; at 2 \"b\"; at 4 \"c\"; cut A 2 4;");
        cut.cut(0, true);
        cut.hand(1, true);
        cut.heard(2);
        Check.due("behind the cut", cut.shown(0), 2);
    }

    private static void shownPages() {
        Check.sentence("2 .. 5: the PAGE of tongue 0 .. 3 (NONE: nothing, no such tongue)");
        for (int tongues = 1; tongues <= 4; tongues++) {
            TitleDesk desk = Check.desk("tongues " + tongues + "; at 2 \"a\";");
            for (int tongue = 0; tongue < 4; tongue++) {
                desk.hand(1, true);
                Check.due("nothing", desk.shown(2 + tongue), -1);
                desk.hand(2, true);
                Check.due("tongue " + tongue + " of " + tongues, desk.shown(2 + tongue), tongue < tongues ? 0 : -1);
            }
        }
    }

    private static void noneForAnotherWhat() {
        Check.sentence("NONE for another what. (shown)");
        TitleDesk desk = Check.desk("tongues 4; at 1 \"a\";");
        desk.hand(1, true);
        int[] wrong = {-1, 6, 7, 256, Integer.MIN_VALUE, Integer.MIN_VALUE + 2, Integer.MAX_VALUE};
        for (int what : wrong) {
            Check.due("shown(" + what + ")", desk.shown(what), -1);
        }
        Check.due("shown(5)", desk.shown(5), 0);
        Check.due("shown(0)", desk.shown(0), 0);
    }

    private static void signsOfNow() {
        Check.sentence("Sign k of ROW 0 or 1 of a tongue that is SHOWN; NONE if there is none such.");
        TitleDesk desk = Check.desk("tongues 2; width 0 4; at 2 \"aaaa b cccc d eeee\" \"xx\"; blank 5;");
        String[][] rows = {{"", ""}, {"", ""}, {"aaaa", "b"}, {"cccc", "d"}, {"eeee", ""}, {"", ""}};
        for (int bar = 0; bar < rows.length; bar++) {
            desk.hand(bar, true);
            for (int row = -1; row <= 2; row++) {
                for (int k = -1; k <= 5; k++) {
                    boolean there = row >= 0 && row < 2 && k >= 0 && k < rows[bar][row].length();
                    Check.due("now(0, " + row + ", " + k + ") in bar " + bar, desk.now(0, row, k),
                            there ? rows[bar][row].charAt(k) : -1);
                }
            }
        }
        desk.hand(4, true);
        Check.due("now(1, 0, 1)", desk.now(1, 0, 1), 'x');
        Check.due("now(1, 0, 2)", desk.now(1, 0, 2), -1);
        int[] wrong = {-1, 2, 4, Integer.MIN_VALUE, Integer.MAX_VALUE};
        for (int w : wrong) {
            Check.due("tongue " + w, desk.now(w, 0, 0), -1);
            Check.due("row " + w, desk.now(1, w, 0), -1);
            Check.due("k " + w, desk.now(1, 0, w), -1);
        }
    }

    private static void counts() {
        Check.sentence("NONE for another what. (count)");
        TitleDesk desk = Check.desk("tongues 4; width 0 40; speed 0 20; beats 8; at 1 \"a\"; cut A 1 2;");
        int[] wrong = {-1, 9, 10, 256, Integer.MIN_VALUE, Integer.MAX_VALUE};
        for (int what : wrong) {
            Check.due("count(" + what + ")", desk.count(what), -1);
        }
        Check.sentence("0 tongues, 1 titles, 2 cuts, 3 POS, 4 whether it is FOLLOWING, 5 DOUBTS, 6 width, 7 speed of tongue 0, 8 beats");
        int[] due = {4, 1, 1, 0, 1, 0, 40, 20, 8};
        for (int what = 0; what < due.length; what++) {
            Check.due("count(" + what + ")", desk.count(what), due[what]);
        }
        // blanks are no titles; cuts count whether they are on or not
        TitleDesk other = Check.desk("tongues 1; blank 1; at 2 \"a\"; blank 3; cut A 1 2; cut C 3 4;");
        Check.due("titles", other.count(1), 1);
        other.cut(0, true);
        Check.due("cuts", other.count(2), 2);
    }
}
