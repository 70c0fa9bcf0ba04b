/** Terms 2 and promises 10 to 13: a test for each sentence that names an edge, at it and just beside it. */
public final class RowsEdgesTest {
    public static void main(String[] args) {
        noneWiderThanTheWidth();
        atMostTwoRowsAPage();
        squaresOfWhatIsShort();
        theLeastPrice();
        moreWordsInTheFirstRow();
        theGreatestNumberOfPages();
        pagesOfSteps();
        upToTheNextOrBarThousand();
        barsThatAreNotCut();
        bySpeedUp();
        zeroIfNoneIsAbove();
        barsInWhichItIsShown();
        greatestOverTonguesAndPages();
        aTongueIsChanged();
        noSuchTitle();
        noSuchWhat();
        noSuchTongue();
        signsThatAreNone();
        Check.end();
    }

    private static TitleDesk one(int width, String string) {
        return Check.desk("tongues 1; width 0 " + width + "; at 1 \"" + string + "\";");
    }

    private static void dueRows(int width, String string, String rows, int price) {
        TitleDesk desk = one(width, string);
        Check.due("rows of " + string + " by " + width, Check.rows(desk, 0, 0), rows);
        Check.due("price of " + string + " by " + width, desk.price(0, 0), price);
    }

    private static void noneWiderThanTheWidth() {
        Check.sentence("ROWS (words with one sign between), none wider than the width");
        for (int width = 4; width <= 40; width++) {
            String word = Check.repeat("x", width, "");
            dueRows(width, word, word, 0);
            String rest = Check.repeat("y", width - 2, "");
            dueRows(width, "x " + rest, "x " + rest, 0);
            dueRows(width, "x " + rest + "y", "x/" + rest + "y", (width - 1) * (width - 1) + 1);
            dueRows(width, word + " z", word + "/z", (width - 1) * (width - 1));
        }
        dueRows(5, "a b c", "a b c", 0);
        dueRows(4, "a b c", "a b/c", 1 + 9);
    }

    private static void atMostTwoRowsAPage() {
        Check.sentence("at most two a PAGE, each PAGE at least one; the least number of PAGES");
        for (int rows = 1; rows <= 12; rows++) {
            TitleDesk desk = one(4, Check.repeat("abc", rows, " "));
            Check.due("pages of " + rows + " rows", desk.pages(0, 0), (rows + 1) / 2);
            for (int page = 0; page < 7; page++) {
                for (int row = 0; row < 2; row++) {
                    boolean there = 2 * page + row < rows;
                    Check.due(rows + " rows: row " + row + " of page " + page, Check.row(desk, 0, 0, page, row), there ? "abc" : "");
                }
            }
        }
        // the most words there can be: 20 in each of 12 rows
        Check.due("pages of 240 words", one(40, Check.repeat("a", 240, " ")).pages(0, 0), 6);
        Check.due("pages of 40 words", one(40, Check.repeat("a", 40, " ")).pages(0, 0), 1);
        Check.due("pages of 41 words", one(40, Check.repeat("a", 41, " ")).pages(0, 0), 2);
    }

    private static void squaresOfWhatIsShort() {
        Check.sentence("PRICE: the sum, over ROWS, of the square of what each is short of the width");
        for (int signs = 1; signs <= 40; signs++) {
            Check.due("price of " + signs, one(40, Check.repeat("x", signs, "")).price(0, 0), (40 - signs) * (40 - signs));
        }
        // a row that is none has no price; the last row has one
        Check.due("one row", one(40, "a b").price(0, 0), 37 * 37);
        Check.due("three rows of four", one(4, "aaaa bbbb cc").price(0, 0), 4);
        // the greatest: every row has one sign too many for two
        String dear = Check.repeat(Check.repeat("x", 21, ""), 12, " ");
        Check.due("twelve rows", one(40, dear).price(0, 0), 12 * 19 * 19);
    }

    private static void theLeastPrice() {
        Check.sentence("of these ways the least PRICE");
        dueRows(6, "aaa bb cc ddddd", "aaa/bb cc|ddddd", 9 + 1 + 1);
        dueRows(10, "a b c d e f", "a b c/d e f", 25 + 25);
        dueRows(10, "aaaa bbbb cc dddd", "aaaa bbbb/cc dddd", 1 + 9);
        dueRows(8, "aa bb cc dd ee", "aa bb cc/dd ee", 0 + 9);
        dueRows(8, "aa bb cc ddddddd", "aa bb cc/ddddddd", 0 + 1);
        dueRows(9, "aaa bbb ccc ddd eeeeeeee f", "aaa bbb/ccc ddd|eeeeeeee/f", 4 + 4 + 1 + 64);
        // one row where two would have room
        dueRows(40, "aa bb", "aa bb", 35 * 35);
    }

    private static void moreWordsInTheFirstRow() {
        Check.sentence("of several the one with more words in the first ROW of which they have unlike numbers"
                + " (a PAGE with one ROW has 0 in its second)");
        dueRows(4, "a b c", "a b/c", 1 + 9);
        dueRows(4, "a b c d e", "a b/c d|e", 1 + 1 + 9);
        dueRows(5, "aa bb cc dd ee", "aa bb/cc dd|ee", 9);
        // like rows: the page with one of them is the last
        dueRows(4, "aaa bbb ccc", "aaa/bbb|ccc", 3);
        dueRows(4, "aaaa bbbb cccc dddd eeee", "aaaa/bbbb|cccc/dddd|eeee", 0);
        // the first row is like, the second isn't
        dueRows(4, "aaaa b c d", "aaaa/b c|d", 0 + 1 + 9);
        dueRows(4, "aaa b c d eee", "aaa/b c|d/eee", 1 + 1 + 9 + 1);
    }

    private static void theGreatestNumberOfPages() {
        Check.sentence("STEPS of a title: the greatest number of PAGES of its tongues");
        for (int tongue = 0; tongue < 4; tongue++) {
            for (int pages = 1; pages <= 6; pages++) {
                StringBuilder text = new StringBuilder("tongues 4; width 0 4; width 1 4; width 2 4; width 3 4; at 1");
                for (int t = 0; t < 4; t++) {
                    text.append(" \"").append(Check.repeat("abc", t == tongue ? 2 * pages : 1, " ")).append('"');
                }
                TitleDesk desk = Check.desk(text + ";");
                Check.due("steps with " + pages + " pages of tongue " + tongue, desk.title(0, 1), pages);
                Check.change(desk, 0, tongue, "a");
                Check.due("steps as tonight", desk.title(0, 1), 1);
            }
        }
    }

    private static void pagesOfSteps() {
        Check.sentence("in STEP j (from 0 on) a tongue with p of them shows PAGE j p / STEPS, cut;"
                + " STEP j begins with that one of these that has j BARS / STEPS (cut) ahead of it");
        for (int steps = 1; steps <= 6; steps++) {
            for (int pages = 1; pages <= steps; pages++) {
                for (int bars = 1; bars <= 13; bars += 3) {
                    dueSteps(steps, pages, bars);
                }
            }
        }
    }

    private static void dueSteps(int steps, int pages, int bars) {
        TitleDesk desk = Check.desk("tongues 2; width 0 4; width 1 4; at 10 \"" + Check.repeat("abc", 2 * steps, " ")
                + "\" \"" + Check.repeat("abc", 2 * pages, " ") + "\"; blank " + (10 + bars) + ";");
        int step = 0;
        for (int ahead = 0; ahead < bars; ahead++) {
            while (step + 1 < steps && (step + 1) * bars / steps <= ahead) {
                step++;
            }
            desk.hand(10 + ahead, true);
            String name = steps + " steps, " + pages + " pages, " + bars + " bars, " + ahead + " ahead: shown ";
            Check.due(name + "1", desk.shown(1), step);
            Check.due(name + "2", desk.shown(2), step);
            Check.due(name + "3", desk.shown(3), step * pages / steps);
        }
    }

    private static void upToTheNextOrBarThousand() {
        Check.sentence("A title stands from its BAR on, up to the next at or blank, or BAR 1000.");
        TitleDesk desk = Check.desk("tongues 1; at 1 \"a\"; at 2 \"b\"; at 5 \"c\"; blank 7; at 998 \"d\";");
        int[] bars = {1, 3, 2, 2};
        for (int title = 0; title < 4; title++) {
            Check.due("title(" + title + ", 2)", desk.title(title, 2), bars[title]);
        }
        Check.due("from 1 to 999", Check.desk("tongues 1; at 1 \"a\";").title(0, 2), 999);
        Check.due("999 alone", Check.desk("tongues 1; at 999 \"a\";").title(0, 2), 1);
        Check.due("up to a blank in 999", Check.desk("tongues 1; at 1 \"a\"; blank 999;").title(0, 2), 998);
        // a cut is neither at nor blank
        Check.due("a cut that is not on", Check.desk("tongues 1; at 1 \"a\"; cut A 3 5; at 11 \"b\";").title(0, 2), 10);
    }

    private static void barsThatAreNotCut() {
        Check.sentence("BARS of it that count are those that aren't cut tonight");
        for (int first = 1; first <= 30; first++) {
            for (int behind = first + 1; behind <= 31; behind += 3) {
                TitleDesk desk = Check.desk("tongues 1; at 10 \"a\"; blank 20; cut C " + first + " " + behind + ";");
                Check.due("bars without the cut", desk.title(0, 2), 10);
                desk.cut(2, true);
                int taken = Math.max(0, Math.min(20, behind) - Math.max(10, first));
                Check.due("bars with the cut from " + first + " up to " + behind, desk.title(0, 2), 10 - taken);
                desk.cut(2, false);
                Check.due("bars without it again", desk.title(0, 2), 10);
            }
        }
        TitleDesk desk = Check.desk("tongues 1; at 999 \"a\"; cut A 1 999; cut B 998 999;");
        desk.cut(0, true);
        desk.cut(1, true);
        Check.due("bar 999 is in no cut", desk.title(0, 2), 1);
        TitleDesk twice = Check.desk("tongues 1; at 1 \"a\"; blank 11; cut A 2 6; cut B 4 8; cut C 2 6;");
        for (int name = 0; name < 3; name++) {
            twice.cut(name, true);
        }
        Check.due("a bar of several cuts is taken once", twice.title(0, 2), 4);
    }

    private static int oneShort(int speed, int beats, int signs, int bars) {
        return Check.desk("tongues 1; width 0 40; speed 0 " + speed + "; beats " + beats + "; at 1 \""
                + Check.repeat("x", signs, "") + "\"; blank " + (1 + bars) + ";").title(0, 3);
    }

    private static void bySpeedUp() {
        Check.sentence("its signs (both ROWS) by speed, up");
        int[][] due = {{1, 9, 8}, {4, 8, 1}, {4, 9, 2}, {4, 11, 2}, {4, 12, 2}, {4, 13, 3}, {20, 20, 0}, {20, 21, 1}, {20, 40, 1},
            {19, 39, 2}, {7, 36, 5}};
        for (int[] row : due) {
            Check.due(row[1] + " signs by " + row[0], oneShort(row[0], 1, row[1], 1), row[2]);
        }
        // both rows together, up once; the blank between the rows is no sign, those within are
        Check.due("3 and 3 by 4", Check.desk("tongues 1; width 0 4; beats 1; at 1 \"aaa bbb\"; blank 2;").title(0, 3), 1);
        Check.due("5 and 4 by 4", Check.desk("tongues 1; width 0 5; beats 1; at 1 \"aa bb cccc\"; blank 2;").title(0, 3), 2);
        Check.due("4 and 4 by 4", Check.desk("tongues 1; width 0 4; beats 1; at 1 \"aaaa bbbb\"; blank 2;").title(0, 3), 1);
    }

    private static void zeroIfNoneIsAbove() {
        Check.sentence("0 if none is above 0");
        Check.due("1 above", oneShort(1, 8, 9, 1), 1);
        Check.due("just enough", oneShort(1, 8, 8, 1), 0);
        Check.due("1 below", oneShort(1, 8, 7, 1), 0);
        Check.due("far below", oneShort(20, 8, 1, 998), 0);
    }

    private static void barsInWhichItIsShown() {
        Check.sentence("less beats times the BARS that count in which it is shown");
        Check.due("8 beats, 1 bar", oneShort(1, 8, 40, 1), 32);
        Check.due("8 beats, 4 bars", oneShort(1, 8, 40, 4), 8);
        Check.due("1 beat, 39 bars", oneShort(1, 1, 40, 39), 1);
        Check.due("1 beat, 40 bars", oneShort(1, 1, 40, 40), 0);
        TitleDesk desk = Check.desk("tongues 1; speed 0 1; beats 1; at 1 \"abcdefghij\"; blank 11; cut A 1 2; cut B 3 11; cut C 2 3;");
        Check.due("10 bars", desk.title(0, 3), 0);
        desk.cut(0, true);
        Check.due("9 bars", desk.title(0, 3), 1);
        desk.cut(1, true);
        Check.due("1 bar", desk.title(0, 3), 9);
        desk.cut(2, true);
        Check.due("no bar at all", desk.title(0, 2), 0);
        Check.due("no bar to read it in", desk.title(0, 3), 10);
        // two steps in one bar: the first is never shown
        TitleDesk two = Check.desk("tongues 1; width 0 4; speed 0 1; beats 8; at 1 \"aaaa bbbb c\"; blank 2;");
        Check.due("the first page in no bar", two.title(0, 3), 8);
    }

    private static void greatestOverTonguesAndPages() {
        Check.sentence("SHORT of a title: the greatest, over tongues and PAGES");
        String middle = "tongues 1; width 0 4; speed 0 1; beats 2; at 1 \"aaaa bbbb cccc dddd e\"; blank 4;";
        Check.due("pages of 8, 8 and 1 in 1 bar each", Check.desk(middle).title(0, 3), 6);
        String last = "tongues 1; width 0 4; speed 0 1; beats 2; at 1 \"aaaa b cccc dddd\"; blank 4;";
        Check.due("pages of 5 in 1 bar, 8 in 2", Check.desk(last).title(0, 3), 4);
        String later = "tongues 1; width 0 4; speed 0 1; beats 6; at 1 \"aaaa b cccc dddd\"; blank 3;";
        Check.due("pages of 5 and 8 in 1 bar each", Check.desk(later).title(0, 3), 2);
        for (int tongue = 0; tongue < 4; tongue++) {
            StringBuilder text = new StringBuilder("tongues 4; speed 0 1; speed 1 1; speed 2 1; speed 3 1; beats 1; at 1");
            for (int t = 0; t < 4; t++) {
                text.append(t == tongue ? " \"abcdefghij\"" : " \"ab\"");
            }
            Check.due("tongue " + tongue, Check.desk(text + "; blank 2;").title(0, 3), 9);
        }
    }

    private static void aTongueIsChanged() {
        Check.sentence("4: whether a tongue of it is changed tonight");
        for (int tongue = 0; tongue < 4; tongue++) {
            TitleDesk desk = Check.desk("tongues 4; at 1 \"a\"; at 2 \"b\";");
            Check.due("none", desk.title(1, 4), 0);
            Check.change(desk, 1, tongue, "c");
            Check.due("tongue " + tongue, desk.title(1, 4), 1);
            Check.due("of another title", desk.title(0, 4), 0);
            desk.change(1, tongue, 0);
            Check.due("none again", desk.title(1, 4), 0);
        }
    }

    private static void noSuchTitle() {
        Check.sentence("IndexOutOfBoundsException: no such title.");
        int[] far = {-1, -2, 40, 41, Integer.MIN_VALUE, Integer.MAX_VALUE};
        for (int titles = 0; titles <= 3; titles++) {
            String[] items = {"", "at 1 \"a\";", "at 1 \"a\"; blank 2; at 3 \"b\";", "at 1 \"a\"; at 3 \"b\"; at 5 \"c\"; blank 7;"};
            TitleDesk desk = Check.desk("tongues 1;" + items[titles]);
            for (int title = -1; title <= 4; title++) {
                dueOfTitle(desk, title, title >= 0 && title < titles ? 0 : Check.INDEX);
            }
            for (int title : far) {
                dueOfTitle(desk, title, Check.INDEX);
            }
        }
        TitleDesk full = Check.desk("tongues 1;" + ats(40));
        dueOfTitle(full, 39, 0);
        dueOfTitle(full, 40, Check.INDEX);
        // a title that is none, with a what or a tongue that is none as well
        Check.dueThrown("title(40, 5)", () -> full.title(40, 5), Check.INDEX);
        Check.dueThrown("pages(40, 1)", () -> full.pages(40, 1), Check.INDEX);
        Check.dueThrown("price(-1, -1)", () -> full.price(-1, -1), Check.INDEX);
    }

    private static String ats(int number) {
        StringBuilder ats = new StringBuilder();
        for (int bar = 1; bar <= number; bar++) {
            ats.append("at ").append(bar).append(" \"a\";");
        }
        return ats.toString();
    }

    private static void dueOfTitle(TitleDesk desk, int title, int thrown) {
        for (int what = 0; what <= 4; what++) {
            int asked = what;
            Check.dueThrown("title(" + title + ", " + what + ")", () -> desk.title(title, asked), thrown);
        }
        Check.dueThrown("pages(" + title + ", 0)", () -> desk.pages(title, 0), thrown);
        Check.dueThrown("price(" + title + ", 0)", () -> desk.price(title, 0), thrown);
    }

    private static void noSuchWhat() {
        Check.sentence("NoSuchElementException: no such what.");
        TitleDesk desk = Check.desk("tongues 1; at 1 \"a\";");
        int[] wrong = {-1, 5, 6, 256, Integer.MIN_VALUE, Integer.MAX_VALUE};
        for (int what : wrong) {
            Check.dueThrown("title(0, " + what + ")", () -> desk.title(0, what), Check.ELEMENT);
        }
        for (int what = 0; what <= 4; what++) {
            int asked = what;
            Check.dueThrown("title(0, " + what + ")", () -> desk.title(0, asked), 0);
        }
    }

    private static void noSuchTongue() {
        Check.sentence("exceptions likewise (no such tongue)");
        for (int tongues = 1; tongues <= 4; tongues++) {
            TitleDesk desk = Check.desk("tongues " + tongues + "; at 1 \"a\";");
            int[] asked = {0, 1, 2, 3, 4, 5, -1, Integer.MIN_VALUE, Integer.MAX_VALUE};
            for (int tongue : asked) {
                int thrown = tongue >= 0 && tongue < tongues ? 0 : Check.ELEMENT;
                Check.dueThrown("pages(0, " + tongue + ") of " + tongues, () -> desk.pages(0, tongue), thrown);
                Check.dueThrown("price(0, " + tongue + ") of " + tongues, () -> desk.price(0, tongue), thrown);
            }
        }
    }

    private static void signsThatAreNone() {
        Check.sentence("Sign k of a ROW (0, 1) of a PAGE of a title's tongue; NONE if there is none such.");
        TitleDesk desk = Check.desk("tongues 2; width 0 4; at 1 \"aaaa b cccc d eeee\" \"xx\"; at 9 \"f g\"; blank 10;");
        String[][] rows = {{"aaaa", "b"}, {"cccc", "d"}, {"eeee", ""}, {"", ""}, {"", ""}, {"", ""}, {"", ""}};
        for (int page = -1; page <= 6; page++) {
            for (int row = -1; row <= 2; row++) {
                for (int k = -1; k <= 5; k++) {
                    boolean there = page >= 0 && row >= 0 && row < 2 && k >= 0 && k < rows[page][row].length();
                    Check.due("sign(0, 0, " + page + ", " + row + ", " + k + ")", desk.sign(0, 0, page, row, k),
                            there ? rows[page][row].charAt(k) : -1);
                }
            }
        }
        int[] wrong = {-1, 2, 4, 40, Integer.MIN_VALUE, Integer.MAX_VALUE};
        for (int w : wrong) {
            Check.due("title " + w, desk.sign(w, 0, 0, 0, 0), -1);
            Check.due("tongue " + w, desk.sign(0, w, 0, 0, 0), -1);
            Check.due("page " + w, desk.sign(0, 1, w, 0, 0), -1);
            Check.due("row " + w, desk.sign(0, 0, 0, w, 0), -1);
            Check.due("k " + w, desk.sign(0, 1, 0, 0, w), -1);
        }
        Check.due("sign(1, 0, 0, 0, 1)", desk.sign(1, 0, 0, 0, 1), ' ');
        Check.due("sign(1, 1, 0, 0, 2)", desk.sign(1, 1, 0, 0, 2), 'g');
        TitleDesk wide = one(40, Check.repeat("x", 40, ""));
        Check.due("the 40th", wide.sign(0, 0, 0, 0, 39), 'x');
        Check.due("the 41st", wide.sign(0, 0, 0, 0, 40), -1);
    }
}
