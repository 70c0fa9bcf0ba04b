/** The faults of Terms 1: each with its place, and which of several is told. TextEdgesTest runs them. */
final class TextFaultEdges {
    private TextFaultEdges() {
    }

    static void all() {
        theFirstAlongTheText();
        ofOnePlaceTheLeast();
        theLengthIfMoreMustCome();
        fortyMarks();
        eightCuts();
        settingsToldAlready();
        barsThatAreNotAbove();
        namesToldAlready();
        cutsThatAreNotAbove();
        wordsWiderThanTheWidth();
        moreThanSixPages();
        ofATongueWithoutItsOwn();
        askedBehindTheSemicolon();
    }

    private static void theFirstAlongTheText() {
        Check.sentence("FAULTS, the first along the text");
        Check.dueFault("tongues 1; beats ^9; beats 9; x", 2);
        Check.dueFault("tongues 1; beats 4; ^beats 9; x", 3);
        Check.dueFault("tongues 1; ^x; beats 9; beats 9;", 1);
        Check.dueFault("tongues 1; width 0 10; ^width 0 99;", 3);
        Check.dueFault("tongues 1; width 0 10; ^width 0 x", 3);
        Check.dueFault("tongues 1; speed 0 10; ^speed 0", 3);
        Check.dueFault("tongues 1; cut A 1 2; cut ^A 9 3;", 3);
        Check.dueFault("tongues 1; at 5 \"a\"; at ^5 \" a\";", 3);
        Check.dueFault("tongues 1; width 0 4; at 5 ^\"abcde\"; at 5 \"a\";", 4);
    }

    private static void ofOnePlaceTheLeast() {
        Check.sentence("(of one place the least)");
        // 1 and 2: a string that isn't so, and one too many
        Check.dueFault("tongues 1; at 5 \"a\" ^\" b\";", 1);
        Check.dueFault("tongues 1; at 5 \"a\" ^\" \";", 1);
        Check.dueFault("tongues 1; at 5 \"a\" ^\"b", 1);
        // 2 and 3: a number out of its span that isn't above another either
        Check.dueFault("tongues 1; at 5 \"a\"; at ^0 \"b\";", 2);
        Check.dueFault("tongues 1; blank 5; blank ^0;", 2);
        Check.dueFault("tongues 1; cut A 5 ^0;", 2);
    }

    private static void theLengthIfMoreMustCome() {
        Check.sentence("(its first byte; the length, if more must come)");
        String[] texts = {"^", "tongues^", "tongues 1^", "tongues 1; width^", "tongues 1; width 0^", "tongues 1; width 0 4^",
            "tongues 1; beats^", "tongues 1; beats 4^", "tongues 1; at^", "tongues 1; at 1^", "tongues 1; at 1 \"a\"^",
            "tongues 1; blank^", "tongues 1; blank 1^", "tongues 1; cut^", "tongues 1; cut A^", "tongues 1; cut A 1^",
            "tongues 1; cut A 1 2^"};
        for (String text : texts) {
            Check.dueFault(text, 1);
            // blanks at the end belong to the length
            Check.dueFault(text.replace("^", " \n ^"), 1);
        }
        // what stands there, but is none or can't stand there, has a first byte
        Check.dueFault("tongues 1; at 1 \"a\" ^?", 1);
        Check.dueFault("tongues 1; at 1 \"a\" ^7", 1);
        // bytes of the tape behind the text are no part of it
        TitleDesk desk = new TitleDesk();
        Check.feed(desk, "tongues 1; at 1 \"a\";");
        Check.due("text(19)", desk.text(19), -1);
        Check.due("fault(0)", desk.fault(0), 1);
        Check.due("fault(1)", desk.fault(1), 19);
    }

    /** So many of them, one a bar; every so many is an at, the others are blanks. */
    private static String marks(int number, int everyAt) {
        StringBuilder marks = new StringBuilder("tongues 1;");
        for (int bar = 1; bar <= number; bar++) {
            marks.append(bar % everyAt == 0 ? "at " + bar + "\"a\";" : "blank " + bar + ";");
        }
        return marks.toString();
    }

    private static void fortyMarks() {
        Check.sentence("a 41st at or blank");
        Check.dueTitles(marks(40, 1), 40);
        Check.dueTitles(marks(40, 2), 20);
        Check.dueTitles(marks(40, 41), 0);
        int[] every = {1, 2, 40, 41};
        for (int everyAt : every) {
            String forty = marks(40, everyAt);
            Check.dueFault(forty + "^at 41\"a\";", 2);
            Check.dueFault(forty + "^blank 41;", 2);
            Check.dueFault(forty + "cut A 1 2;^blank 41;", 2);
            Check.dueFault(forty + "^at", 2);
            Check.dueFault(forty + "^at 0", 2);
            Check.dueFault(forty + "^blank 40;", 2);
            Check.dueTitles(forty + "cut A 1 2;", 40 / everyAt);
        }
        TitleDesk desk = Check.desk(marks(40, 1));
        desk.hand(40, true);
        Check.due("the 40th is shown", desk.shown(0), 39);
        desk.hand(999, true);
        Check.due("up to the end", desk.shown(0), 39);
    }

    private static void eightCuts() {
        Check.sentence("a ninth cut (at its first TOKEN)");
        StringBuilder cuts = new StringBuilder("tongues 1;");
        for (char name = 'H'; name >= 'A'; name--) {
            cuts.append("cut ").append(name).append(" 1 2;");
        }
        Check.due("eight cuts", Check.desk(cuts.toString()).count(2), 8);
        Check.dueFault(cuts + "^cut A 1 2;", 2);
        Check.dueFault(cuts + "^cut I 1 2;", 2);
        Check.dueFault(cuts + "^cut", 2);
        Check.dueFault(cuts + "at 1 \"a\";blank 3;^cut H 1 2;", 2);
        Check.dueTitles(cuts + "at 1 \"a\";blank 3;", 1);
    }

    private static void settingsToldAlready() {
        Check.sentence("a SETTING told already (at its first TOKEN; of one tongue)");
        Check.dueTitles("tongues 4; width 0 4; width 1 4; width 2 4; width 3 4; speed 0 4; speed 1 4; speed 2 4; speed 3 4; beats 4;", 0);
        for (int tongue = 0; tongue < 4; tongue++) {
            String all = "tongues 4; width 3 4; speed 2 4; width 1 4; speed 0 4; width 0 4; speed 1 4; width 2 4; speed 3 4; beats 4;";
            Check.dueFault(all + " ^width " + tongue + " 4;", 3);
            Check.dueFault(all + " ^speed " + tongue + " 4;", 3);
        }
        Check.dueFault("tongues 1; beats 4;^beats 4;", 3);
        Check.dueFault("tongues 1; width 0 20; ^width 0 20;", 3);
        Check.dueFault("tongues 1; width 0 10; width ^1 10;", 2);
        // no setting is told already by another text, or by one with a fault
        TitleDesk desk = Check.desk("tongues 1; width 0 4; speed 0 5; beats 6;");
        Check.text(desk, "tongues 1; width 0 4; speed 0 5; beats 6; x");
        Check.due("text", Check.text(desk, "tongues 1; width 0 7; speed 0 8; beats 3;"), 0);
        Check.due("fault(0)", desk.fault(0), 0);
        Check.due("count(6)", desk.count(6), 7);
    }

    private static void barsThatAreNotAbove() {
        Check.sentence("a B of an at or blank that isn't above that of the one ahead");
        String[] heads = {"at 500 \"a\";", "blank 500;", "at 500 \"a\"; cut A 900 999;", "blank 500; cut A 1 2;"};
        for (String head : heads) {
            Check.dueFault("tongues 1; " + head + " at ^500 \"a\";", 3);
            Check.dueFault("tongues 1; " + head + " at ^499 \"a\";", 3);
            Check.dueFault("tongues 1; " + head + " blank ^500;", 3);
            Check.dueFault("tongues 1; " + head + " blank ^1;", 3);
            Check.dueTitles("tongues 1; " + head + " at 501 \"b\";", head.startsWith("at") ? 2 : 1);
            Check.dueTitles("tongues 1; " + head + " blank 501;", head.startsWith("at") ? 1 : 0);
        }
        Check.dueFault("tongues 1; at 999 \"a\"; at ^999 \"a\";", 3);
        Check.dueTitles("tongues 1; at 1 \"a\";", 1);
        // a cut's bars are not asked so
        Check.dueTitles("tongues 1; at 500 \"a\"; cut A 500 501; cut B 1 2; at 501 \"b\";", 2);
    }

    private static void namesToldAlready() {
        Check.sentence("a NAME told already");
        for (char name = 'A'; name <= 'H'; name++) {
            Check.dueFault("tongues 1; cut " + name + " 1 2; cut ^" + name + " 1 2;", 3);
            Check.dueFault("tongues 1; cut " + name + " 1 2; at 1 \"a\"; cut ^" + name + " 3 4;", 3);
            char other = name == 'A' ? 'H' : (char) (name - 1);
            Check.dueTitles("tongues 1; cut " + name + " 1 2; cut " + other + " 1 2;", 0);
        }
    }

    private static void cutsThatAreNotAbove() {
        Check.sentence("a cut's second B that isn't above its first (at these)");
        Check.dueFault("tongues 1; cut A 1 ^1;", 3);
        Check.dueFault("tongues 1; cut A 2 ^1;", 3);
        Check.dueFault("tongues 1; cut A 500 ^500;", 3);
        Check.dueFault("tongues 1; cut A 999 ^999;", 3);
        Check.dueFault("tongues 1; cut A 999 ^1;", 3);
        Check.dueTitles("tongues 1; cut A 1 2; cut B 998 999;", 0);
    }

    private static void wordsWiderThanTheWidth() {
        Check.sentence("a string one of whose words is wider than its tongue's width");
        for (int width = 4; width <= 40; width++) {
            String word = Check.repeat("x", width, "");
            String head = "tongues 2; width 0 " + width + "; width 1 40; at 1 ";
            Check.dueTitles(head + "\"" + word + "\";", 1);
            Check.dueFault(head + "^\"" + word + "x\";", 4);
            Check.dueFault(head + "^\"a " + word + "x b\";", 4);
            Check.dueFault(head + "^\"a b " + word + "x\" \"c\";", 4);
            String second = "tongues 2; width 0 40; width 1 " + width + "; at 1 \"a\" ";
            Check.dueTitles(second + "\"" + word + "\";", 1);
            Check.dueFault(second + "^\"" + word + "x\";", 4);
        }
    }

    private static void moreThanSixPages() {
        Check.sentence("or that needs more than 6 PAGES");
        for (int width = 4; width <= 40; width += 6) {
            String word = Check.repeat("x", width / 2 + 1, "");
            String head = "tongues 2; width 0 " + width + "; width 1 40; at 1 ";
            TitleDesk desk = Check.desk(head + "\"" + Check.repeat(word, 12, " ") + "\" \"a\";");
            Check.due("12 rows by " + width, desk.pages(0, 0), 6);
            Check.dueFault(head + "^\"" + Check.repeat(word, 13, " ") + "\" \"a\";", 4);
        }
        Check.dueFault("tongues 1; width 0 40; at 1 ^\"" + Check.repeat("a", 241, " ") + "\";", 4);
        Check.dueTitles("tongues 1; width 0 40; at 1 \"" + Check.repeat("a", 240, " ") + "\";", 1);
        Check.dueFault("tongues 1; width 0 4; at 1 ^\"" + Check.repeat("a", 25, " ") + "\";", 4);
        Check.dueTitles("tongues 1; width 0 4; at 1 \"" + Check.repeat("a", 24, " ") + "\";", 1);
        Check.dueFault("tongues 1; width 0 4; at 1 ^\"" + Check.repeat("a", 730, " ") + "\";", 4);
    }

    private static void ofATongueWithoutItsOwn() {
        Check.sentence("(at it; of a tongue without one of its own, by that tongue's width: at the first string)");
        Check.dueFault("tongues 2; width 1 4; at 1 ^\"abcde\";", 4);
        Check.dueFault("tongues 2; width 1 4; at 1 ^\"abcde\" \"\";", 4);
        Check.dueTitles("tongues 2; width 1 4; at 1 \"abcde\" \"abcd\";", 1);
        Check.dueFault("tongues 2; width 1 4; at 1 \"abcde\" ^\"bcdef\";", 4);
        Check.dueFault("tongues 4; width 3 4; at 1 ^\"abcde\" \"b\" \"c\" \"\";", 4);
        Check.dueFault("tongues 2; width 1 4; at 1 ^\"" + Check.repeat("abc", 13, " ") + "\";", 4);
        Check.dueTitles("tongues 2; width 1 4; at 1 \"" + Check.repeat("abc", 13, " ") + "\" \"a\";", 1);
        // of several strings the first along the text, though a later tongue asks for it
        Check.dueFault("tongues 3; width 1 4; width 2 4; at 1 ^\"abcde\" \"bcdef\";", 4);
        Check.dueFault("tongues 3; width 1 4; width 2 4; at 1 \"abcde\" ^\"bcdef\" \"cdefg\";", 4);
    }

    private static void askedBehindTheSemicolon() {
        Check.sentence("4, asked behind the ; of its title");
        Check.dueFault("tongues 1; width 0 4; at 1 \"abcde\"^", 1);
        Check.dueFault("tongues 1; width 0 4; at 1 \"abcde\" ^at 2 \"a\";", 1);
        Check.dueFault("tongues 1; width 0 4; at 1 \"abcde\" ^\"b\";", 2);
        Check.dueFault("tongues 2; width 0 4; at 1 \"abcde\" ^\"b \";", 1);
        Check.dueFault("tongues 1; width 0 4; at 1 ^\"abcde\";", 4);
        Check.dueFault("tongues 1; width 0 4; at 1 ^\"abcde\"; ?", 4);
        Check.dueFault("tongues 1; width 0 4; at 1 ^\"abcde\"; at 1 \"a\"; at 2 \"fghij\";", 4);
    }
}
