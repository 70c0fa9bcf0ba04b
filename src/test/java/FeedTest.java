/** Promise 2: twenty bytes behind the tape, the highest of each number first; 1500 at most. */
public final class FeedTest {
    public static void main(String[] args) {
        bytesStandInOrder();
        fullTapeTakesNone();
        tapeIsEmptyBehindUse();
        Check.end();
    }

    private static void bytesStandInOrder() {
        TitleDesk desk = new TitleDesk();
        // tong ues_ 1;at _1_" ab";
        Check.due("feed", desk.feed(0x746f6e67, 0x75657320, 0x313b6174, 0x20312022, 0x6162223b), 20);
        Check.due("text(20)", desk.text(20), 1);
        Check.due("row", Check.row(desk, 0, 0, 0, 0), "ab");

        String text = "tongues 1; at 7 \"the quick fox\"; at 9 \"jumps over it\"; blank 11;";
        TitleDesk longer = new TitleDesk();
        Check.due("last feed", Check.feed(longer, text), 80);
        Check.due("text(" + text.length() + ")", longer.text(text.length()), 2);
        Check.due("rows of 0", Check.rows(longer, 0, 0), "the quick fox");
        Check.due("rows of 1", Check.rows(longer, 1, 0), "jumps over it");

        // bytes from 128 on are no tokens, and reach no other byte
        TitleDesk high = new TitleDesk();
        Check.due("feed of high bytes", high.feed(0x746f6e67, 0x75657320, 0x313bffff, -1, -1), 20);
        Check.due("text(11)", high.text(11), -1);
        Check.due("fault(0)", high.fault(0), 1);
        Check.due("fault(1)", high.fault(1), 10);
    }

    private static void fullTapeTakesNone() {
        TitleDesk desk = new TitleDesk();
        Check.feed(desk, "tongues 1;at 1 \"ab\";");
        for (int i = 2; i <= 75; i++) {
            Check.due("feed " + i, desk.feed(0x20202020, 0x20202020, 0x20202020, 0x20202020, 0x20202020), 20 * i);
        }
        Check.due("feed 76", desk.feed(0, 0, 0, 0, 0), -1);
        Check.due("feed 77", desk.feed(-1, -1, -1, -1, -1), -1);
        Check.due("text(1501)", desk.text(1501), -2);
        Check.due("text(1500)", desk.text(1500), 1);
        Check.due("feed behind text", desk.feed(0, 0, 0, 0, 0), 20);
    }

    private static void tapeIsEmptyBehindUse() {
        TitleDesk desk = Check.desk("tongues 1; at 1 \"ab\";");
        Check.due("feed behind a text", desk.feed(0, 0, 0, 0, 0), 20);
        Check.due("text with a fault", desk.text(20), -1);
        Check.due("feed behind a fault", desk.feed(0x61626364, 0, 0, 0, 0), 20);
        Check.due("change(0, 0, 4)", desk.change(0, 0, 4), true);
        Check.due("feed behind a change", desk.feed(0, 0, 0, 0, 0), 20);
    }
}
