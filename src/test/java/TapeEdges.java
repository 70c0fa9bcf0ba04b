/** Promises 1 to 4: the tape, and what becomes of it and of the text. TextEdgesTest runs them. */
final class TapeEdges {
    private static final String TEXT = "tongues 2; at 5 \"one\" \"eins\"; at 9 \"two\"; cut A 6 8;";

    private TapeEdges() {
    }

    static void all() {
        aNewDesk();
        fourBytesOfEachNumber();
        noMoreThanFifteenHundred();
        theTapeIsEmptyThen();
        noneWithAFault();
        notSoManyOrBelowZero();
        theLatestTextThatWasNotRefused();
        noneWithoutAFault();
        noneForAnotherWhat();
        allOfTheCalls();
    }

    private static void aNewDesk() {
        Check.sentence("An empty TEXT of one tongue, an EVENING begun, an empty TAPE.");
        TitleDesk desk = new TitleDesk();
        int[] counts = {1, 0, 0, 0, 1, 0, 20, 4, 4};
        for (int what = 0; what < counts.length; what++) {
            Check.due("count(" + what + ")", desk.count(what), counts[what]);
        }
        Check.due("text(1)", desk.text(1), -2);
        Check.due("cut(0, true)", desk.cut(0, true), false);
        Check.due("change(0, 0, 0)", desk.change(0, 0, 0), false);
        Check.dueThrown("title(0, 0)", () -> desk.title(0, 0), Check.INDEX);
        desk.hand(999, true);
        Check.due("shown(0)", desk.shown(0), -1);
        Check.due("feed", desk.feed(0, 0, 0, 0, 0), 20);
    }

    private static void fourBytesOfEachNumber() {
        Check.sentence("Twenty bytes come behind the TAPE, four of each number, the highest first");
        // every number and every byte of it has its place, high bits and all
        String text = "tongues 1;";
        for (int place = 10; place < 20; place++) {
            for (int sign = 0; sign < 256; sign += 51) {
                TitleDesk desk = new TitleDesk();
                String fed = text + Check.repeat(" ", place - 10, "") + (char) sign;
                Check.feed(desk, fed);
                Check.due("text(" + place + ")", desk.text(place), 0);
                Check.feed(desk, fed);
                Check.due("text(" + (place + 1) + ") with " + sign, desk.text(place + 1), -1);
                Check.due("fault(1) with " + sign, desk.fault(1), place);
            }
        }
        TitleDesk desk = new TitleDesk();
        Check.due("feed", desk.feed(0x746f6e67, 0x75657320, 0x313b6174, 0x20312022, 0x6162223b), 20);
        Check.due("feed", desk.feed(0x61742032, 0x22636465, 0x6667223b, Integer.MIN_VALUE, -1), 40);
        Check.due("text(32)", desk.text(32), 2);
        Check.due("rows", Check.rows(desk, 1, 0), "cdefg");
    }

    private static void noMoreThanFifteenHundred() {
        Check.sentence("NONE, and none come, if it would have more than 1500");
        TitleDesk desk = new TitleDesk();
        Check.feed(desk, "tongues 1;at 1 \"ab\";");
        for (int size = 40; size <= 1480; size += 20) {
            Check.due("feed", desk.feed(0x20202020, 0x20202020, 0x20202020, 0x20202020, 0x20202020), size);
        }
        Check.due("the 75th", Check.feed(desk, "           at 2 \"c\";"), 1500);
        Check.due("the 76th", Check.feed(desk, "at 3 \"d\";           "), -1);
        Check.due("the 77th", desk.feed(-1, -1, -1, -1, -1), -1);
        Check.due("text(1501)", desk.text(1501), -2);
        Check.due("text(1500)", desk.text(1500), 2);
        Check.due("rows of the last bytes", Check.rows(desk, 1, 0), "c");
        Check.due("feed again", desk.feed(0, 0, 0, 0, 0), 20);
    }

    private static void theTapeIsEmptyThen() {
        Check.sentence("The TAPE's first n bytes (it is empty then) are the TEXT");
        TitleDesk desk = new TitleDesk();
        Check.feed(desk, "tongues 1;at 1 \"ab\";");
        Check.due("text(10) of 20", desk.text(10), 0);
        Check.due("nothing is left", desk.text(1), -2);
        Check.due("feed", Check.feed(desk, "tongues 1;at 1 \"cd\";"), 20);
        Check.due("text(20)", desk.text(20), 1);
        Check.due("nothing is left", desk.text(1), -2);
        // what is fed later reaches no text that was read
        Check.feed(desk, "xxxxxxxxxxxxxxxxxxxx");
        Check.due("rows", Check.rows(desk, 0, 0), "cd");
        Check.due("text(0)", desk.text(0), -1);
        Check.due("nothing is left", desk.text(1), -2);
    }

    private static void noneWithAFault() {
        Check.sentence("NONE with a FAULT");
        TitleDesk desk = Check.desk(TEXT);
        desk.cut(0, true);
        Check.change(desk, 0, 1, "zwei");
        desk.hand(9, true);
        Check.due("text", Check.text(desk, "tongues 4; width 0 4; beats 8; at 1 \"x\"; cut B 1 2; ?"), -1);
        Check.due("the tape is empty", desk.text(1), -2);
        int[] counts = {2, 2, 1, 9, 1, 0, 20, 4, 4};
        for (int what = 0; what < counts.length; what++) {
            Check.due("count(" + what + ")", desk.count(what), counts[what]);
        }
        Check.due("the cut is on", desk.title(0, 2), 2);
        Check.due("no other cut", desk.cut(1, true), false);
        Check.due("rows(0, 0)", Check.rows(desk, 0, 0), "one");
        Check.due("rows(0, 1)", Check.rows(desk, 0, 1), "zwei");
        Check.due("shown(0)", desk.shown(0), 1);
        desk.begin();
        Check.due("rows(0, 1)", Check.rows(desk, 0, 1), "eins");
    }

    private static void notSoManyOrBelowZero() {
        Check.sentence("-2, and the TAPE stays: there are not so many, n is below 0");
        TitleDesk desk = Check.desk(TEXT);
        desk.hand(9, true);
        int[] none = {1, 2, 1500, Integer.MAX_VALUE, -1, Integer.MIN_VALUE};
        for (int n : none) {
            Check.due("text(" + n + ") of an empty tape", desk.text(n), -2);
        }
        Check.feed(desk, "tongues 1;at 1 \"ab\";");
        int[] wrong = {21, 22, 40, 1500, 1501, Integer.MAX_VALUE, -1, -20, Integer.MIN_VALUE};
        for (int n : wrong) {
            Check.due("text(" + n + ")", desk.text(n), -2);
        }
        Check.due("the text stays", desk.count(1), 2);
        Check.due("the evening goes on", desk.count(3), 9);
        Check.due("the tape stays", desk.text(20), 1);
        Check.due("rows", Check.rows(desk, 0, 0), "ab");
        Check.due("an evening is begun", desk.count(3), 0);
    }

    private static void theLatestTextThatWasNotRefused() {
        Check.sentence("Of the latest text() that was not -2");
        TitleDesk desk = new TitleDesk();
        dueFault(desk, "of none", 0, -1);
        desk.text(1);
        dueFault(desk, "behind -2 alone", 0, -1);
        Check.text(desk, "tongues 9;");
        dueFault(desk, "2", 2, 8);
        desk.text(1);
        desk.text(-1);
        dueFault(desk, "behind -2", 2, 8);
        Check.text(desk, TEXT);
        dueFault(desk, "of a text", 0, -1);
        Check.text(desk, "tongues 1; beats 4; beats 4;");
        dueFault(desk, "3", 3, 20);
        // no other call has a fault
        desk.begin();
        desk.hand(-1, true);
        Check.change(desk, 0, 0, " ");
        desk.change(0, 0, 0);
        dueFault(desk, "behind other calls", 3, 20);
        desk.text(0);
        dueFault(desk, "of no bytes", 1, 0);
    }

    private static void noneWithoutAFault() {
        Check.sentence("what 0: its FAULT (0), 1: its place (NONE without)");
        dueFault(Check.desk("tongues 1;"), "of a text", 0, -1);
        TitleDesk desk = new TitleDesk();
        Check.text(desk, "?");
        dueFault(desk, "at the first byte", 1, 0);
        Check.text(desk, "tongues 1;" + Check.repeat(" ", 1489, "") + "?");
        dueFault(desk, "at the last byte", 1, 1499);
        Check.text(desk, "tongues 1" + Check.repeat(" ", 1491, ""));
        dueFault(desk, "at the length of a full tape", 1, 1500);
    }

    private static void dueFault(TitleDesk desk, String name, int fault, int place) {
        Check.due("fault(0) " + name, desk.fault(0), fault);
        Check.due("fault(1) " + name, desk.fault(1), place);
    }

    private static void noneForAnotherWhat() {
        Check.sentence("NONE for another what. (fault)");
        TitleDesk desk = new TitleDesk();
        Check.text(desk, "tongues 9;");
        int[] wrong = {-1, 2, 3, 256, Integer.MIN_VALUE, Integer.MAX_VALUE};
        for (int what : wrong) {
            Check.due("fault(" + what + ")", desk.fault(what), -1);
        }
    }

    private static void allOfTheCalls() {
        Check.sentence("An object is used for at most 512 calls after it has been made");
        TitleDesk desk = new TitleDesk();
        for (int call = 0; call < 512; call += 4) {
            Check.due("feed, call " + call, desk.feed(0x746f6e67, 0x75657320, 0x313b6174, 0x20312022, 0x6162223b), 20);
            Check.due("text(20)", desk.text(20), 1);
            Check.due("heard(1)", desk.heard(1), 1);
            Check.due("now(0, 0, 1)", desk.now(0, 0, 1), 'b');
        }
        TitleDesk changed = Check.desk("tongues 1;at 1 \"ab\";");
        for (int call = 3; call + 3 <= 512; call += 3) {
            changed.feed(0x61626364 + (call & 7), 0, 0, 0, 0);
            Check.due("change, call " + call, changed.change(0, 0, 4), true);
            Check.due("sign(0, 0, 0, 0, 3)", changed.sign(0, 0, 0, 0, 3), 'd' + (call & 7));
        }
        TitleDesk fed = new TitleDesk();
        for (int call = 0; call < 512; call++) {
            Check.due("feed, call " + call, fed.feed(call, 0, 0, 0, 0), call < 75 ? 20 * (call + 1) : -1);
        }
    }
}
