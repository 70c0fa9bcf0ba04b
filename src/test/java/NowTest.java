/** Promise 15: a sign of what a tongue shows now. */
public final class NowTest {
    public static void main(String[] args) {
        TitleDesk desk = Check.desk("tongues 2; width 0 4; width 1 6; at 2 \"aa b cc dd ee\" \"xxx y zzz\";"
                + " at 6 \"q\"; blank 7; cut A 2 4;");
        due(desk, 0, "", "");
        due(desk, 1, "", "");
        due(desk, 2, "aa b/cc", "xxx y/zzz");
        due(desk, 3, "aa b/cc", "xxx y/zzz");
        due(desk, 4, "dd/ee", "xxx y/zzz");
        due(desk, 5, "dd/ee", "xxx y/zzz");
        due(desk, 6, "q", "q");
        due(desk, 7, "", "");
        due(desk, 999, "", "");

        desk.hand(3, true);
        Check.due("now(0, 0, 2) is a blank", desk.now(0, 0, 2), 32);
        Check.due("now(0, 0, 4)", desk.now(0, 0, 4), -1);
        int[] wrong = {-1, 2, 3, 4, Integer.MIN_VALUE, Integer.MAX_VALUE};
        for (int w : wrong) {
            Check.due("now(" + w + ", 0, 0)", desk.now(w, 0, 0), -1);
            Check.due("now(0, " + w + ", 0)", desk.now(0, w, 0), -1);
        }
        Check.due("now(0, 0, -1)", desk.now(0, 0, -1), -1);
        Check.due("now(0, 0, most)", desk.now(0, 0, Integer.MAX_VALUE), -1);
        Check.due("now(0, 1, 2)", desk.now(0, 1, 2), -1);

        desk.cut(0, true);
        Check.due("now behind the cut, the first of two steps", Check.now(desk, 0), "aa b/cc");
        Check.change(desk, 0, 0, "new");
        Check.due("now as tonight", Check.now(desk, 0), "new");
        Check.due("now(0, 1, 0) as tonight", desk.now(0, 1, 0), -1);
        Check.end();
    }

    private static void due(TitleDesk desk, int bar, String first, String second) {
        desk.hand(bar, true);
        Check.due("tongue 0 in bar " + bar, Check.now(desk, 0), first);
        Check.due("tongue 1 in bar " + bar, Check.now(desk, 1), second);
    }
}
