/** Promise 10: bar, steps, bars that count, short, changed; and its exceptions. */
public final class TitleTest {
    public static void main(String[] args) {
        barsAndSteps();
        shortOfOnePage();
        shortOfPages();
        shortOfTongues();
        moreStepsThanBars();
        exceptions();
        Check.end();
    }

    private static void barsAndSteps() {
        TitleDesk desk = Check.desk("tongues 2; width 0 4; width 1 40;"
                + " at 1 \"a b c d e f g h i j\"; at 21 \"a b\" \"c\"; blank 30; at 31 \"d\"; at 999 \"e\"; cut A 2 22;");
        int[][] due = {{1, 3, 20}, {21, 1, 9}, {31, 1, 968}, {999, 1, 1}};
        for (int title = 0; title < due.length; title++) {
            for (int what = 0; what < 3; what++) {
                Check.due("title(" + title + ", " + what + ")", desk.title(title, what), due[title][what]);
            }
        }
        desk.cut(0, true);
        Check.due("title(0, 2) with the cut", desk.title(0, 2), 1);
        Check.due("title(1, 2) with the cut", desk.title(1, 2), 8);
        Check.due("title(0, 0) with the cut", desk.title(0, 0), 1);
    }

    private static void shortOfOnePage() {
        // 11 signs by 4, up: 3 beats
        Check.due("1 bar of 2", oneShort("beats 2;", "hello world", 6), 1);
        Check.due("2 bars of 2", oneShort("beats 2;", "hello world", 7), 0);
        Check.due("1 bar of 3", oneShort("beats 3;", "hello world", 6), 0);
        Check.due("1 bar of 1", oneShort("beats 1;", "hello world", 6), 2);
        // 12 by 4 is even; 13 is up
        Check.due("12 signs", oneShort("beats 1;", "hello worlds", 6), 2);
        Check.due("13 signs", oneShort("beats 1;", "hello worldss", 6), 3);
        // both rows count, the blank between them not
        Check.due("two rows", oneShort("width 0 6; beats 1;", "hello world", 6), 2);
        Check.due("two rows of 13", oneShort("width 0 8; speed 0 1; beats 1;", "hello ab cdefg", 6), 12);
        Check.due("the plain speed and beats", oneShort("", "abcdefghijklmnopqrst uv", 6), 2);
        Check.due("the greatest speed", oneShort("speed 0 20; beats 1;", "abcdefghijklmnopqrst uv", 6), 1);
    }

    /** The SHORT of a title from bar 5 on, up to another one. */
    private static int oneShort(String settings, String string, int end) {
        return Check.desk("tongues 1; " + settings + " at 5 \"" + string + "\"; blank " + end + ";").title(0, 3);
    }

    private static void shortOfPages() {
        // pages of 8, 8 and 4 signs; 7 bars are 2, 2 and 3 of them
        TitleDesk desk = Check.desk("tongues 1; width 0 4; speed 0 1; beats 2;"
                + " at 1 \"aaaa bbbb cccc dddd eeee\"; blank 8; cut A 2 3; cut B 4 8; cut C 1 8;");
        Check.due("title(0, 3)", desk.title(0, 3), 4);
        desk.cut(0, true);
        // 6 bars: 2, 2, 2
        Check.due("6 bars", desk.title(0, 3), 4);
        desk.cut(1, true);
        // 2 bars: 0, 1, 1
        Check.due("2 bars", desk.title(0, 3), 8);
        desk.cut(2, true);
        Check.due("no bars", desk.title(0, 2), 0);
        Check.due("short without bars", desk.title(0, 3), 8);
        // the last page is what stands too short
        TitleDesk last = Check.desk("tongues 1; width 0 4; speed 0 1; beats 8; at 1 \"a b c d eeee ffff\"; blank 2;");
        Check.due("the page that no bar shows", last.title(0, 3), 6);
    }

    private static void shortOfTongues() {
        // tongue 0 has 3 pages of 8, 8, 4 signs, tongue 1 has 2 of 8 and 4; 6 bars, 2 a step
        TitleDesk desk = Check.desk("tongues 2; width 0 4; width 1 4; speed 0 4; speed 1 1; beats 1;"
                + " at 1 \"aaaa bbbb cccc dddd eeee\" \"ffff gggg hhhh\"; blank 7;");
        Check.due("steps", desk.title(0, 1), 3);
        // tongue 0: 2 - 2; tongue 1: its first page in steps 0 and 1: 8 - 4, its second: 4 - 2
        Check.due("title(0, 3)", desk.title(0, 3), 4);
        Check.change(desk, 0, 1, "f");
        Check.due("as tonight", desk.title(0, 3), 0);
        // a page that is shown in all steps
        TitleDesk wide = Check.desk("tongues 2; width 0 4; width 1 40; speed 0 20; speed 1 1; beats 1;"
                + " at 1 \"aaaa bbbb cccc dddd eeee\"; blank 7;");
        Check.due("24 signs in 6 bars", wide.title(0, 3), 18);
    }

    private static void moreStepsThanBars() {
        TitleDesk desk = Check.desk("tongues 1; width 0 4; speed 0 1; beats 8; at 1 \"aaaa bbbb cccc\"; blank 2;");
        Check.due("steps", desk.title(0, 1), 2);
        // the only bar is that of the last step: the first page of 8 signs is never shown
        Check.due("title(0, 3)", desk.title(0, 3), 8);
    }

    private static void exceptions() {
        TitleDesk desk = Check.desk("tongues 1; at 1 \"a\"; blank 3; at 5 \"b\";");
        int[] titles = {-1, 2, 3, 40, Integer.MIN_VALUE, Integer.MAX_VALUE};
        for (int title : titles) {
            for (int what = -1; what <= 5; what++) {
                int asked = what;
                Check.dueThrown("title(" + title + ", " + what + ")", () -> desk.title(title, asked), Check.INDEX);
            }
        }
        int[] whats = {-1, 5, 6, Integer.MIN_VALUE, Integer.MAX_VALUE};
        for (int what : whats) {
            Check.dueThrown("title(0, " + what + ")", () -> desk.title(0, what), Check.ELEMENT);
        }
        for (int what = 0; what <= 4; what++) {
            int asked = what;
            Check.dueThrown("title(1, " + what + ")", () -> desk.title(1, asked), 0);
        }
    }
}
