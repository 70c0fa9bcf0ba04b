/** Terms 1 and promises 1 to 4: a test for each sentence that names an edge, at it and just beside it. */
public final class TextEdgesTest {
    public static void main(String[] args) {
        blanks();
        words();
        names();
        numbers();
        signsOfStrings();
        formOfText();
        formOfSettings();
        formOfItems();
        spanOfTongues();
        spanOfT();
        spansOfSettings();
        spansOfBars();
        wordsOfStrings();
        firstStringHasAWord();
        asManyStringsAsTongues();
        withoutSettings();
        TextFaultEdges.all();
        TapeEdges.all();
        Check.end();
    }

    private static void blanks() {
        Check.sentence("Blanks 10, 32.");
        Check.dueTitles(" \n tongues \n 1 \n ; \n at \n 1 \n \"a\" \n ; \n ", 1);
        Check.dueTitles("tongues\n1\n;at\n1\"a\"\n;", 1);
        Check.dueTitles("tongues1;at1\"a\";cutA1 2;", 1);
        int[] none = {0, 8, 9, 11, 12, 13, 31, 33, 127, 128, 138, 160, 255};
        for (int sign : none) {
            Check.dueFault("^" + (char) sign + "tongues 1;", 1);
            Check.dueFault("tongues^" + (char) sign + "1;", 1);
            Check.dueFault("tongues 1;^" + (char) sign, 1);
        }
        Check.dueFault("^ton gues 1;", 1);
        Check.dueFault("tongues 1; at 1 ^2 \"a\";", 1);
    }

    private static void words() {
        Check.sentence("words (small letters in a row)");
        Check.dueFault("tongues^`1;", 1);
        Check.dueFault("tongues^{1;", 1);
        Check.dueFault("tongues^A;", 1);
        Check.dueFault("^tonguesa1;", 1);
        Check.dueFault("^tonguesz1;", 1);
        Check.dueFault("^`tongues 1;", 1);
        Check.dueFault("^{tongues 1;", 1);
        Check.dueFault("^TONGUES 1;", 1);
        Check.dueFault("tongues 1; ^a", 1);
        Check.dueFault("tongues 1; ^t 1 \"a\";", 1);
        Check.dueFault("tongues 1; ^atat 1 \"a\";", 1);
        Check.dueFault("tongues 1; ^z", 1);
    }

    private static void names() {
        Check.sentence("NAMES (one letter A .. H)");
        for (char name = 'A'; name <= 'H'; name++) {
            TitleDesk desk = Check.desk("tongues 1; cut " + name + " 1 2;");
            for (int asked = 0; asked < 8; asked++) {
                Check.due("cut(" + asked + ") of " + name, desk.cut(asked, true), asked == name - 'A');
            }
        }
        Check.dueFault("tongues 1; cut ^@ 1 2;", 1);
        Check.dueFault("tongues 1; cut ^I 1 2;", 1);
        Check.dueFault("tongues 1; cut ^Z 1 2;", 1);
        Check.dueFault("tongues 1; cut ^a 1 2;", 1);
        Check.dueFault("tongues 1; cut ^h 1 2;", 1);
        Check.dueFault("tongues 1; cut ^0 1 2;", 1);
        Check.dueFault("tongues 1; cut A^A 1 2;", 1);
        Check.dueFault("tongues 1; cut ^1 2;", 1);
    }

    private static void numbers() {
        Check.sentence("numbers (digits)");
        Check.dueTitles("tongues 1; width 0 10; at 123 \"a\"; at 456 \"b\"; at 789 \"c\";", 3);
        Check.dueTitles("tongues 001; at " + Check.repeat("0", 1400, "") + "7 \"a\";", 1);
        Check.dueFault("tongues ^/1;", 1);
        Check.dueFault("tongues ^:1;", 1);
        Check.dueFault("tongues 1^/;", 1);
        Check.dueFault("tongues 1^:;", 1);
        Check.dueFault("tongues ^-1;", 1);
        Check.dueFault("tongues ^+1;", 1);
        Check.dueFault("tongues 1^.0;", 1);
        Check.dueFault("tongues 1^x;", 1);
        // rows of digits that would wrap round into the span
        Check.dueFault("tongues ^257;", 2);
        Check.dueFault("tongues ^65537;", 2);
        Check.dueFault("tongues ^4294967297;", 2);
        Check.dueFault("tongues ^18446744073709551617;", 2);
        Check.dueFault("tongues ^1" + Check.repeat("0", 1400, "") + ";", 2);
    }

    private static void signsOfStrings() {
        Check.sentence("strings (\" signs 32 .. 126 but \" \")");
        for (int sign = 0; sign < 256; sign++) {
            String head = "tongues 1; at 1 ";
            String string = "\"a" + (char) sign + "b\";";
            if (sign == '"') {
                Check.dueFault(head + "\"a\"^b\";", 1);
            } else if (sign >= 32 && sign <= 126) {
                Check.dueTitles(head + string, 1);
            } else {
                Check.dueFault(head + "^" + string, 1);
            }
        }
        Check.dueFault("tongues 1; at 1 ^\"a", 1);
        Check.dueFault("tongues 1; at 1 ^\"", 1);
        Check.dueFault("tongues 1; at 1 \"a\" ^\";", 1);
    }

    private static void formOfText() {
        Check.sentence("TEXT: tongues N ';' { SETTING } { ITEM }");
        Check.dueTitles("tongues 1;", 0);
        Check.dueTitles("tongues 1; beats 4;", 0);
        Check.dueTitles("tongues 1; blank 1;", 0);
        Check.dueFault("^", 1);
        Check.dueFault(" \n ^", 1);
        Check.dueFault("^beats 4;", 1);
        Check.dueFault("^at 1 \"a\";", 1);
        Check.dueFault("tongues^", 1);
        Check.dueFault("tongues ^;", 1);
        Check.dueFault("tongues 1^", 1);
        Check.dueFault("tongues 1 ^beats 4;", 1);
        Check.dueFault("tongues 1; ^tongues 1;", 1);
        Check.dueFault("tongues 1;^;", 1);
        String[] items = {"at 1 \"a\";", "blank 1;", "cut A 1 2;"};
        String[] settings = {"width 0 4;", "speed 0 4;", "beats 4;"};
        for (String item : items) {
            for (String setting : settings) {
                Check.dueFault("tongues 1; " + item + " ^" + setting, 1);
            }
        }
    }

    private static void formOfSettings() {
        Check.sentence("SETTING: width T N ';' | speed T N ';' | beats N ';'.");
        Check.dueTitles("tongues 2; beats 4; speed 1 4; width 1 4; speed 0 4; width 0 4;", 0);
        String[] kinds = {"width", "speed"};
        for (String kind : kinds) {
            Check.dueFault("tongues 1; " + kind + "^", 1);
            Check.dueFault("tongues 1; " + kind + " ^;", 1);
            Check.dueFault("tongues 1; " + kind + " ^A 4;", 1);
            Check.dueFault("tongues 1; " + kind + " 0^", 1);
            Check.dueFault("tongues 1; " + kind + " 0 ^;", 1);
            Check.dueFault("tongues 1; " + kind + " 0 4^", 1);
            Check.dueFault("tongues 1; " + kind + " 0 4 ^4;", 1);
            Check.dueFault("tongues 1; " + kind + " 0 4 ^\"a\";", 1);
        }
        Check.dueFault("tongues 1; beats^", 1);
        Check.dueFault("tongues 1; beats ^;", 1);
        Check.dueFault("tongues 1; beats 4^", 1);
        Check.dueFault("tongues 1; beats 0004 ^4;", 1);
    }

    private static void formOfItems() {
        Check.sentence("ITEM: at B S { S } ';' | blank B ';' | cut NAME B B ';'.");
        Check.dueFault("tongues 1; at^", 1);
        Check.dueFault("tongues 1; at ^\"a\";", 1);
        Check.dueFault("tongues 1; at 1^", 1);
        Check.dueFault("tongues 1; at 1 ^;", 1);
        Check.dueFault("tongues 1; at 1 \"a\"^", 1);
        Check.dueFault("tongues 1; at 1 \"a\" ^blank 2;", 1);
        Check.dueFault("tongues 1; blank^", 1);
        Check.dueFault("tongues 1; blank ^;", 1);
        Check.dueFault("tongues 1; blank 1^", 1);
        Check.dueFault("tongues 1; blank 1 ^\"a\";", 1);
        Check.dueFault("tongues 1; cut^", 1);
        Check.dueFault("tongues 1; cut ^;", 1);
        Check.dueFault("tongues 1; cut A^", 1);
        Check.dueFault("tongues 1; cut A ^A 1 2;", 1);
        Check.dueFault("tongues 1; cut A 1^", 1);
        Check.dueFault("tongues 1; cut A 1 ^;", 1);
        Check.dueFault("tongues 1; cut A 1 2^", 1);
        Check.dueFault("tongues 1; cut A 1 2 ^3;", 1);
    }

    private static void spanOfTongues() {
        Check.sentence("N: tongues 1 .. 4");
        for (int tongues = 0; tongues <= 12; tongues++) {
            if (tongues >= 1 && tongues <= 4) {
                Check.due("count(0)", Check.desk("tongues " + tongues + ";").count(0), tongues);
            } else {
                Check.dueFault("tongues ^" + tongues + ";", 2);
            }
        }
    }

    private static void spanOfT() {
        Check.sentence("T: a tongue, 0 up");
        for (int tongues = 1; tongues <= 4; tongues++) {
            for (int t = 0; t <= 5; t++) {
                String head = "tongues " + tongues + "; ";
                if (t < tongues) {
                    Check.dueTitles(head + "width " + t + " 4; speed " + t + " 1;", 0);
                } else {
                    Check.dueFault(head + "width ^" + t + " 4;", 2);
                    Check.dueFault(head + "speed ^" + t + " 1;", 2);
                }
            }
        }
    }

    private static void spansOfSettings() {
        dueSpan("width 4 .. 40", "width 0", 4, 40, 6);
        dueSpan("speed 1 .. 20", "speed 0", 1, 20, 7);
        dueSpan("beats 1 .. 8", "beats", 1, 8, 8);
        // of another tongue than 0 the span is the same
        dueSpan("width 4 .. 40", "width 1", 4, 40, -1);
        dueSpan("speed 1 .. 20", "speed 3", 1, 20, -1);
    }

    private static void dueSpan(String sentence, String setting, int least, int most, int count) {
        Check.sentence(sentence);
        for (int n = 0; n <= most + 10; n++) {
            if (n < least || n > most) {
                Check.dueFault("tongues 4; " + setting + " ^" + n + ";", 2);
            } else {
                TitleDesk desk = Check.desk("tongues 4; " + setting + " " + n + ";");
                Check.due("count(" + count + ") of " + setting + " " + n, desk.count(count), count < 0 ? -1 : n);
            }
        }
    }

    private static void spansOfBars() {
        Check.sentence("B: a BAR, 1 .. 999.");
        int[] fine = {1, 2, 500, 998, 999};
        for (int bar : fine) {
            Check.due("at " + bar, Check.desk("tongues 1; at " + bar + " \"a\";").title(0, 0), bar);
            Check.dueTitles("tongues 1; blank " + bar + ";", 0);
        }
        Check.dueTitles("tongues 1; cut A 1 2;", 0);
        Check.dueTitles("tongues 1; cut A 1 999;", 0);
        Check.dueTitles("tongues 1; cut A 998 999;", 0);
        String[] wrong = {"0", "000", "1000", "1001", "9999", "65536", "4294967296", "4294967297"};
        for (String bar : wrong) {
            Check.dueFault("tongues 1; at ^" + bar + " \"a\";", 2);
            Check.dueFault("tongues 1; blank ^" + bar + ";", 2);
            Check.dueFault("tongues 1; cut A ^" + bar + " 2;", 2);
            Check.dueFault("tongues 1; cut A 1 ^" + bar + ";", 2);
        }
    }

    private static void wordsOfStrings() {
        Check.sentence("A string: words with one sign 32 between, none at its beginning or end");
        String[] wrong = {" ", "  ", " a", "a ", " a ", "a  b", "a b  c", "a b ", "  a"};
        for (String string : wrong) {
            Check.dueFault("tongues 2; at 1 ^\"" + string + "\";", 1);
            Check.dueFault("tongues 2; at 1 \"x\" ^\"" + string + "\";", 1);
        }
        Check.dueTitles("tongues 2; at 1 \"a\" \"b\"; at 2 \"a b\" \"c d e\";", 2);
    }

    private static void firstStringHasAWord() {
        Check.sentence("the first one of a title has a word, others may be empty: then that tongue has the first one's");
        Check.dueFault("tongues 1; at 1 ^\"\";", 1);
        Check.dueFault("tongues 2; at 1 ^\"\" \"b\";", 1);
        Check.dueFault("tongues 1; at 1 \"a\"; at 2 ^\"\";", 1);
        TitleDesk desk = Check.desk("tongues 4; width 3 4; at 1 \"ab cd\" \"\" \"x\" \"\";");
        String[] due = {"ab cd", "ab cd", "x", "ab/cd"};
        for (int tongue = 0; tongue < 4; tongue++) {
            Check.due("rows of tongue " + tongue, Check.rows(desk, 0, tongue), due[tongue]);
        }
    }

    private static void asManyStringsAsTongues() {
        Check.sentence("As many strings as tongues at most; tongues without one have the first one's.");
        String[] strings = {" \"a\"", " \"b\"", " \"c\"", " \"d\""};
        for (int tongues = 1; tongues <= 4; tongues++) {
            StringBuilder text = new StringBuilder("tongues " + tongues + "; at 1");
            for (int told = 1; told <= tongues; told++) {
                text.append(strings[told - 1]);
                TitleDesk desk = Check.desk(text + ";");
                for (int tongue = 0; tongue < tongues; tongue++) {
                    char due = tongue < told ? (char) ('a' + tongue) : 'a';
                    Check.due(told + " of " + tongues + ", tongue " + tongue, Check.rows(desk, 0, tongue), "" + due);
                }
            }
            Check.dueFault(text + " ^\"x\";", 2);
            Check.dueFault(text + " ^\"\";", 2);
            Check.dueFault(text + " ^\"x\" \"y\";", 2);
        }
    }

    private static void withoutSettings() {
        Check.sentence("Without SETTINGS: width 20, speed 4, beats 4.");
        TitleDesk desk = Check.desk("tongues 2; at 1 \"abcdefghijklmnopqrst\"; blank 2; at 3 \"abcdefghi jklmnopqrs t u\"; blank 4;");
        Check.due("count(6)", desk.count(6), 20);
        Check.due("count(7)", desk.count(7), 4);
        Check.due("count(8)", desk.count(8), 4);
        for (int tongue = 0; tongue < 2; tongue++) {
            Check.due("a word of 20", desk.price(0, tongue), 0);
            Check.due("rows by 20", Check.rows(desk, 1, tongue), "abcdefghi/jklmnopqrs t u");
        }
        // 20 signs by 4 are 5 beats, 9 and 14 are 6; a bar has 4
        Check.due("title(0, 3)", desk.title(0, 3), 1);
        Check.due("title(1, 3)", desk.title(1, 3), 2);
        Check.dueFault("tongues 2; at 1 ^\"abcdefghijklmnopqrstu\";", 4);
        Check.dueFault("tongues 2; width 0 40; at 1 ^\"abcdefghijklmnopqrstu\";", 4);
        // a setting of one tongue is none of another
        TitleDesk other = Check.desk("tongues 2; width 1 40; speed 1 20; at 1 \"abcdefghijklmnopqrst u\"; blank 2;");
        Check.due("price of tongue 0", other.price(0, 0), 19 * 19);
        Check.due("price of tongue 1", other.price(0, 1), 18 * 18);
        Check.due("speed of tongue 0", other.title(0, 3), 2);
    }
}
