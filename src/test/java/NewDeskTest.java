/** Promise 1: an empty text of one tongue, an evening begun, an empty tape. */
public final class NewDeskTest {
    public static void main(String[] args) {
        TitleDesk desk = new TitleDesk();
        int[] counts = {1, 0, 0, 0, 1, 0, 20, 4, 4};
        for (int what = 0; what < counts.length; what++) {
            Check.due("count(" + what + ")", desk.count(what), counts[what]);
        }
        Check.due("NONE", TitleDesk.NONE, -1);
        Check.due("fault(0)", desk.fault(0), 0);
        Check.due("fault(1)", desk.fault(1), -1);
        for (int what = 0; what < 6; what++) {
            Check.due("shown(" + what + ")", desk.shown(what), -1);
        }
        Check.due("now(0, 0, 0)", desk.now(0, 0, 0), -1);
        Check.due("sign(0, 0, 0, 0, 0)", desk.sign(0, 0, 0, 0, 0), -1);
        Check.dueThrown("title(0, 0)", () -> desk.title(0, 0), Check.INDEX);
        Check.dueThrown("pages(0, 0)", () -> desk.pages(0, 0), Check.INDEX);
        Check.dueThrown("price(0, 0)", () -> desk.price(0, 0), Check.INDEX);
        for (int name = -1; name <= 8; name++) {
            Check.due("cut(" + name + ", true)", desk.cut(name, true), false);
        }
        Check.due("change(0, 0, 0)", desk.change(0, 0, 0), false);
        Check.due("text(1) of an empty tape", desk.text(1), -2);
        Check.due("fault(0) behind -2", desk.fault(0), 0);
        Check.due("first feed", desk.feed(0, 0, 0, 0, 0), 20);
        Check.due("heard(4)", desk.heard(4), 4);
        Check.due("shown(0) in bar 4", desk.shown(0), -1);
        Check.end();
    }
}
