/** Promise 3: the tape's first bytes are the text, unless they have a fault or are not so many. */
public final class TextTest {
    private static final String TWO = "tongues 2; at 5 \"one\" \"eins\"; at 9 \"two\"; cut A 6 8; cut C 1 2;";

    public static void main(String[] args) {
        answersTitles();
        formsOfTexts();
        defaultsAndSettings();
        notSoMany();
        faultLeavesAll();
        textBeginsAnEvening();
        stringsOfTongues();
        Check.end();
    }

    private static void answersTitles() {
        dueTitles("tongues 1;", 0);
        dueTitles("tongues 4; blank 1; blank 999;", 0);
        dueTitles("tongues 1; at 1 \"a\"; blank 2; at 999 \"b\";", 2);
        StringBuilder forty = new StringBuilder("tongues 1;");
        for (int bar = 1; bar <= 40; bar++) {
            forty.append("at ").append(bar).append(" \"a\";");
        }
        dueTitles(forty.toString(), 40);
        dueTitles("tongues 1; at 1 \"a\"; cut H 1 999; cut G 998 999; at 2 \"b\"; cut A 1 2;", 2);
    }

    private static void dueTitles(String text, int titles) {
        Check.dueTitles(text, titles);
    }

    private static void formsOfTexts() {
        dueTitles("tongues1;width0 10;at5\"a\";blank6;cutA1 2;", 1);
        dueTitles("\n\n tongues\n1 ; width 0\n10 ;\nat 5 \"a\" ; \n\n", 1);
        dueTitles("tongues 0001; at 0000000000000005 \"a\"; cut A 01 002;", 1);
        dueTitles("tongues 1; width 0 40; at 1 \"!#$%&'()*+,-./:;<=>?@ [\\]^_`{|}~ A0\";", 1);
    }

    private static void defaultsAndSettings() {
        TitleDesk plain = Check.desk("tongues 3;");
        Check.due("plain width", plain.count(6), 20);
        Check.due("plain speed", plain.count(7), 4);
        Check.due("plain beats", plain.count(8), 4);
        TitleDesk least = Check.desk("tongues 4; width 0 4; speed 0 1; beats 1; width 3 40; speed 3 20;");
        Check.due("least width", least.count(6), 4);
        Check.due("least speed", least.count(7), 1);
        Check.due("least beats", least.count(8), 1);
        TitleDesk most = Check.desk("tongues 4; beats 8; speed 3 1; width 3 4; speed 0 20; width 0 40;");
        Check.due("most width", most.count(6), 40);
        Check.due("most speed", most.count(7), 20);
        Check.due("most beats", most.count(8), 8);
        // neither a text nor one with a fault leaves a setting behind
        for (int i = 0; i < 3; i++) {
            duePlain(most);
        }
        Check.text(most, "tongues 1; width 0 9; speed 0 9; beats 7; at 1 \"a\"; cut A 1 2; x");
        duePlain(most);
        Check.due("cuts behind a fault", most.count(2), 0);
        Check.due("cut(0, true) behind a fault", most.cut(0, true), false);
        duePlain(most);
    }

    private static void duePlain(TitleDesk desk) {
        Check.due("titles of the next text", Check.text(desk, "tongues 1; blank 1;"), 0);
        Check.due("width of the next text", desk.count(6), 20);
        Check.due("speed of the next text", desk.count(7), 4);
        Check.due("beats of the next text", desk.count(8), 4);
    }

    private static void notSoMany() {
        TitleDesk desk = Check.desk(TWO);
        Check.due("text(1)", desk.text(1), -2);
        Check.due("feed", Check.feed(desk, "tongues 1;at 1 \"ab\";"), 20);
        Check.due("text(21)", desk.text(21), -2);
        Check.due("text(-1)", desk.text(-1), -2);
        Check.due("text(least)", desk.text(Integer.MIN_VALUE), -2);
        Check.due("text(most)", desk.text(Integer.MAX_VALUE), -2);
        Check.due("the text stays", desk.count(1), 2);
        Check.due("the tape stays", Check.feed(desk, "at 2 \"c\";"), 40);
        Check.due("text(29)", desk.text(29), 2);
        Check.due("row", Check.row(desk, 1, 0, 0, 0), "c");
        Check.feed(desk, "tongues 1;at 1 \"ab\";");
        Check.due("text(10)", desk.text(10), 0);
        Check.due("the rest of the tape is gone", desk.text(1), -2);
    }

    private static void faultLeavesAll() {
        TitleDesk desk = Check.desk(TWO);
        desk.cut(0, true);
        Check.change(desk, 0, 1, "zwei");
        desk.hand(9, true);
        desk.heard(1);
        Check.due("text with a fault", Check.text(desk, "tongues 1; at 3 \"x\"; at 4 \"y\" \"z\";"), -1);
        Check.due("the tape is empty", desk.text(1), -2);
        Check.due("tongues", desk.count(0), 2);
        Check.due("titles", desk.count(1), 2);
        Check.due("cuts", desk.count(2), 2);
        Check.due("POS", desk.count(3), 9);
        Check.due("DOUBTS", desk.count(5), 1);
        Check.due("bars with the cut", desk.title(0, 2), 2);
        Check.due("bar", desk.title(0, 0), 5);
        Check.due("string", Check.rows(desk, 0, 0), "one");
        Check.due("changed string", Check.rows(desk, 0, 1), "zwei");
        Check.due("is changed", desk.title(0, 4), 1);
        Check.due("text(0)", desk.text(0), -1);
        Check.due("titles behind text(0)", desk.count(1), 2);
        desk.begin();
        Check.due("the text's string", Check.rows(desk, 0, 1), "eins");
    }

    private static void textBeginsAnEvening() {
        TitleDesk desk = Check.desk(TWO);
        desk.cut(0, true);
        Check.change(desk, 0, 1, "zwei");
        desk.hand(7, false);
        Check.due("text", Check.text(desk, TWO), 2);
        Check.due("POS", desk.count(3), 0);
        Check.due("FOLLOWING", desk.count(4), 1);
        Check.due("DOUBTS", desk.count(5), 0);
        Check.due("no cut is on", desk.title(0, 2), 4);
        Check.due("no change", desk.title(0, 4), 0);
        Check.due("the text's string", Check.rows(desk, 0, 1), "eins");
        desk.heard(50);
        Check.text(desk, TWO);
        Check.due("no doubts", desk.count(5), 0);
        Check.due("no doubt is remembered", desk.heard(51), 0);
        // a smaller text behind a greater one has nothing of it
        Check.text(desk, "tongues 1; at 8 \"x\";");
        Check.due("cuts", desk.count(2), 0);
        Check.due("cut(0, true)", desk.cut(0, true), false);
        Check.due("pages(0, 0)", desk.pages(0, 0), 1);
        Check.dueThrown("pages(0, 1)", () -> desk.pages(0, 1), Check.ELEMENT);
        Check.dueThrown("pages(1, 0)", () -> desk.pages(1, 0), Check.INDEX);
    }

    private static void stringsOfTongues() {
        TitleDesk desk = Check.desk("tongues 4; at 1 \"a b\" \"\" \"c\"; at 2 \"d\" \"e\" \"f\" \"g\"; at 3 \"h\" \"\" \"\" \"\";");
        String[][] due = {{"a b", "a b", "c", "a b"}, {"d", "e", "f", "g"}, {"h", "h", "h", "h"}};
        for (int title = 0; title < 3; title++) {
            for (int tongue = 0; tongue < 4; tongue++) {
                Check.due("rows(" + title + ", " + tongue + ")", Check.rows(desk, title, tongue), due[title][tongue]);
            }
        }
    }
}
