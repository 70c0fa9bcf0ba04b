/** Promise 4: the first fault of the latest text and its place; '^' stands ahead of the place here. */
public final class FaultTest {
    public static void main(String[] args) {
        answersOfFault();
        noSuchToken();
        strings();
        outOfSpan();
        tooMany();
        toldOrNotAbove();
        doesNotFit();
        firstAlongTheText();
        tapesThatAreFull();
        Check.end();
    }

    private static void due(String marked, int fault) {
        Check.dueFault(marked, fault);
    }

    private static void answersOfFault() {
        TitleDesk desk = new TitleDesk();
        Check.due("fault(2)", desk.fault(2), -1);
        Check.due("fault(-1)", desk.fault(-1), -1);
        Check.text(desk, "tongues 9;");
        Check.due("fault(0)", desk.fault(0), 2);
        Check.due("fault(1)", desk.fault(1), 8);
        Check.due("fault(2)", desk.fault(2), -1);
        Check.due("fault(least)", desk.fault(Integer.MIN_VALUE), -1);
        Check.due("text(5)", desk.text(5), -2);
        Check.due("fault(0) behind -2", desk.fault(0), 2);
        Check.due("fault(1) behind -2", desk.fault(1), 8);
        Check.text(desk, "tongues 1;");
        Check.due("fault(0) without", desk.fault(0), 0);
        Check.due("fault(1) without", desk.fault(1), -1);
        desk.text(0);
        Check.due("fault(0) of nothing", desk.fault(0), 1);
        Check.due("fault(1) of nothing", desk.fault(1), 0);
    }

    private static void noSuchToken() {
        due("   ^", 1);
        due("^tongue 1;", 1);
        due("^tonguess 1;", 1);
        due("^Tongues 1;", 1);
        due("^;", 1);
        due("^xongues 1;", 1);
        due("tongues 1; ^xidth 0 10;", 1);
        due("tongues 1; ^xpeed 0 10;", 1);
        due("tongues 1; ^xeats 4;", 1);
        due("tongues 1; ^xt 5 \"a\";", 1);
        due("tongues 1; ^xlank 5;", 1);
        due("tongues 1; ^xut A 1 2;", 1);
        due("tongues 1; ^atz 5 \"a\";", 1);
        due("tongues 1; ^ata 5 \"a\";", 1);
        due("tongues 1; ^zat 5 \"a\";", 1);
        due("tongues ^;", 1);
        due("tongues ^x;", 1);
        due("tongues ^-1;", 1);
        due("tongues 1^", 1);
        due("tongues 1  \n^", 1);
        due("tongues 1 ^1;", 1);
        due("tongues 1;^;", 1);
        due("tongues 1; ^tongues 1;", 1);
        due("tongues 1; ^\t", 1);
        due("tongues 1; ^\r", 1);
        due("tongues 1; ^\0", 1);
        due("tongues 1; ^\u00e9", 1);
        due("tongues 1; ^A", 1);
        due("tongues 1; ^5", 1);
        due("tongues 1; ^\"a\"", 1);
        due("tongues 1; ^widths 0 10;", 1);
        due("tongues 1; width^", 1);
        due("tongues 1; width 0^", 1);
        due("tongues 1; width 0 10^", 1);
        due("tongues 1; width 0 10 ^10;", 1);
        due("tongues 1; width ^A 10;", 1);
        due("tongues 1; speed 0 ^;", 1);
        due("tongues 1; beats ^beats;", 1);
        due("tongues 1; beats 4 ^4;", 1);
        due("tongues 1; at ^\"a\";", 1);
        due("tongues 1; at 5^", 1);
        due("tongues 1; at 5 ^;", 1);
        due("tongues 1; at 5 ^a;", 1);
        due("tongues 1; at 5 \"a\"^", 1);
        due("tongues 1; at 5 \"a\" ^6;", 1);
        due("tongues 1; at 5 \"a\" ^at 6 \"b\";", 1);
        due("tongues 1; blank 5 ^\"a\";", 1);
        due("tongues 1; blank ^;", 1);
        due("tongues 1; cut ^I 1 2;", 1);
        due("tongues 1; cut ^a 1 2;", 1);
        due("tongues 1; cut ^1 2;", 1);
        due("tongues 1; cut A^B 1 2;", 1);
        due("tongues 1; cut ^@ 1 2;", 1);
        due("tongues 1; cut A ^;", 1);
        due("tongues 1; cut A 1 ^;", 1);
        due("tongues 1; cut A 1 2 ^3;", 1);
        due("tongues 1; cut A 1 2^", 1);
        due("tongues 1; blank 1; ^width 0 10;", 1);
        due("tongues 1; cut A 1 2; ^speed 0 10;", 1);
        due("tongues 1; at 1 \"a\"; ^beats 4;", 1);
    }

    private static void strings() {
        due("tongues 1; at 5 ^\"\";", 1);
        due("tongues 1; at 5 ^\" \";", 1);
        due("tongues 1; at 5 ^\" a\";", 1);
        due("tongues 1; at 5 ^\"a \";", 1);
        due("tongues 1; at 5 ^\"a  b\";", 1);
        due("tongues 1; at 5 ^\"a", 1);
        due("tongues 1; at 5 ^\"", 1);
        due("tongues 1; at 5 ^\"a\nb\";", 1);
        due("tongues 1; at 5 ^\"a\u007f\";", 1);
        due("tongues 1; at 5 ^\"a\u001f\";", 1);
        due("tongues 1; at 5 ^\"a\u00e9\";", 1);
        due("tongues 2; at 5 \"a\" ^\" b\";", 1);
        due("tongues 2; at 5 \"a\" ^\"b ;", 1);
        due("tongues 3; at 5 \"a\" \"\" ^\"b  c\";", 1);
    }

    private static void outOfSpan() {
        due("tongues ^0;", 2);
        due("tongues ^5;", 2);
        due("tongues ^4294967297;", 2);
        due("tongues ^18446744073709551617;", 2);
        due("tongues 2; width ^2 10;", 2);
        due("tongues 2; width 1 ^3;", 2);
        due("tongues 2; width 1 ^41;", 2);
        due("tongues 2; speed ^2 10;", 2);
        due("tongues 4; speed ^4 10;", 2);
        due("tongues 2; speed 1 ^0;", 2);
        due("tongues 2; speed 1 ^21;", 2);
        due("tongues 2; beats ^0;", 2);
        due("tongues 2; beats ^9;", 2);
        due("tongues 1; at ^0 \"a\";", 2);
        due("tongues 1; at ^1000 \"a\";", 2);
        due("tongues 1; blank ^0;", 2);
        due("tongues 1; blank ^1000;", 2);
        due("tongues 1; cut A ^0 5;", 2);
        due("tongues 1; cut A ^1000 5;", 2);
        due("tongues 1; cut A 1 ^0;", 2);
        due("tongues 1; cut A 999 ^1000;", 2);
    }

    private static void tooMany() {
        due("tongues 1; at 5 \"a\" ^\"b\";", 2);
        due("tongues 1; at 5 \"a\" ^\"\";", 2);
        due("tongues 3; at 5 \"a\" \"\" \"\" ^\"b\" \"c\";", 2);
        due("tongues 4; at 5 \"a\" \"b\" \"c\" \"d\" ^\"e\";", 2);
        StringBuilder forty = new StringBuilder("tongues 1;");
        for (int bar = 1; bar <= 20; bar++) {
            forty.append("at ").append(2 * bar).append(" \"a\";blank ").append(2 * bar + 1).append(";");
        }
        due(forty + " ^at 50 \"a\";", 2);
        due(forty + " ^blank 50;", 2);
        due(forty + " ^at x", 2);
        due(forty + " ^blank", 2);
        due(forty + " ^at 1 \"a\";", 2);
        due(forty + " cut A 1 2; ^blank 50;", 2);
        StringBuilder cuts = new StringBuilder("tongues 1;");
        for (char name = 'A'; name <= 'H'; name++) {
            cuts.append("cut ").append(name).append(" 1 2;");
        }
        due(cuts + " ^cut A 1 2;", 2);
        due(cuts + " ^cut", 2);
        due(cuts + " blank 1; ^cut I 1 2;", 2);
    }

    private static void toldOrNotAbove() {
        due("tongues 2; width 0 10; width 1 10; ^width 0 10;", 3);
        due("tongues 2; width 1 10; speed 1 10; ^width 1 20;", 3);
        due("tongues 2; speed 0 10; speed 1 10; ^speed 1 10;", 3);
        due("tongues 2; speed 0 10; width 0 10; ^speed 0 11;", 3);
        due("tongues 2; beats 4; ^beats 4;", 3);
        due("tongues 1; width 0 20; ^width 0 20;", 3);
        due("tongues 1; at 5 \"a\"; at ^5 \"a\";", 3);
        due("tongues 1; at 5 \"a\"; at ^4 \"a\";", 3);
        due("tongues 1; at 5 \"a\"; blank ^5;", 3);
        due("tongues 1; blank 5; blank ^5;", 3);
        due("tongues 1; blank 5; cut A 7 9; at ^3 \"a\";", 3);
        due("tongues 1; cut B 1 2; cut A 1 2; cut ^B 3 4;", 3);
        due("tongues 1; cut A 5 ^5;", 3);
        due("tongues 1; cut A 5 ^4;", 3);
        due("tongues 1; cut A 999 ^999;", 3);
    }

    private static void doesNotFit() {
        due("tongues 1; at 5 ^\"abcdefghijklmnopqrstu\";", 4);
        due("tongues 1; width 0 4; at 5 ^\"abcde\";", 4);
        due("tongues 1; width 0 4; at 5 ^\"a b abcde c\";", 4);
        due("tongues 1; width 0 4; at 5 ^\"" + Check.repeat("abc", 13, " ") + "\";", 4);
        due("tongues 1; width 0 40; at 5 ^\"" + Check.repeat("a", 241, " ") + "\";", 4);
        due("tongues 1; width 0 4; at 5 ^\"" + Check.repeat("a", 700, " ") + "\";", 4);
        due("tongues 2; width 1 4; at 5 \"abcde\" ^\"abcde\";", 4);
        due("tongues 2; width 1 4; at 5 ^\"abcde\";", 4);
        due("tongues 2; width 1 4; at 5 ^\"abcde\" \"\";", 4);
        due("tongues 2; width 1 4; at 5 ^\"" + Check.repeat("abc", 13, " ") + "\";", 4);
        due("tongues 3; width 1 4; width 2 4; at 5 ^\"abcde\" \"bcdef\";", 4);
        due("tongues 3; width 0 4; width 1 4; at 5 ^\"abcde\" \"bcdef\" \"c\";", 4);
        due("tongues 4; width 3 4; at 5 \"abcde\" \"bcdef\" \"c\" ^\"defgh\";", 4);
        due("tongues 1; width 0 4; at 3 \"abcd\"; at 5 ^\"abcde\"; at 7 \"abcde\";", 4);
        Check.due("words as wide as the width", Check.desk("tongues 1; width 0 4; at 5 \"abcd efgh\";").pages(0, 0), 1);
        String exact = "tongues 1; width 0 5; at 5 \"" + Check.repeat("ab cd", 12, " ") + "\";";
        Check.due("six pages of full rows", Check.desk(exact).pages(0, 0), 6);
        String full = "tongues 1; width 0 40; at 5 \"" + Check.repeat("a", 240, " ") + "\";";
        Check.due("six pages", Check.desk(full).pages(0, 0), 6);
    }

    private static void firstAlongTheText() {
        // of one place the least
        due("tongues 1; at 5 \"a\" ^\" b\";", 1);
        due("tongues 1; at 5 \"a\"; at ^0 \"b\";", 2);
        due("tongues 1; cut A 5 ^0;", 2);
        // what is told already is at the first token, ahead of what is wrong behind it
        due("tongues 1; width 0 10; ^width 0 99;", 3);
        due("tongues 1; width 0 10; ^width 0 x", 3);
        due("tongues 1; speed 0 10; ^speed 0 99;", 3);
        due("tongues 1; width 0 10; width ^1 10;", 2);
        due("tongues 1; beats 4; ^beats 99;", 3);
        due("tongues 1; beats 4; ^beats", 3);
        due("tongues 1; cut A 1 2; cut ^A 9 3;", 3);
        // 4 is asked behind the ';' alone
        due("tongues 1; width 0 4; at 5 \"abcde\" ^x;", 1);
        due("tongues 1; width 0 4; at 5 \"abcde\"^", 1);
        due("tongues 1; width 0 4; at 5 \"abcde\" ^\"b\";", 2);
        due("tongues 2; width 0 4; at 5 \"abcde\" ^\" b\";", 1);
        due("tongues 1; width 0 4; at 5 ^\"abcde\"; x", 4);
        due("tongues 1; width 0 4; at 5 ^\"abcde\";at 5 \"a\";", 4);
    }

    /** A text as long as the tape, so that nothing at all stands behind its last byte. */
    private static void tapesThatAreFull() {
        String[] faults = {"^x", "at^", "at 1^", "at 1 ^\"", "at 1 ^\"a", "at 1 \"a\"^", "at 1 ^\"a \"", "at 1 \"a\" ^\"", "blank 9^",
            "cut^", "cut A^", "cut A 1 2^", "width 0 9^", "^\"a\"", "^9", "^A", "^\u00ff", "blank 1; ^;", "cut A 1 2 ^B"};
        for (String tail : faults) {
            due(full(tail, 1501), 1);
        }
        String[] fine = {" ", "\n", "blank 1;", "at 1 \"a\";", "cut A 1 2;", "beats 1;"};
        for (String tail : fine) {
            TitleDesk desk = Check.desk(full(tail, 1500));
            Check.due("titles of " + tail, desk.count(1), tail.startsWith("at") ? 1 : 0);
        }
        due("tongues 1; at 1 ^\"" + Check.repeat("a", 741, " ") + "\";", 4);
    }

    private static String full(String tail, int length) {
        return "tongues 1;" + Check.repeat(" ", length - 10 - tail.length(), "") + tail;
    }
}
