import java.util.function.IntSupplier;

/**
 * Every call with every mixture of arguments that are too small, too large, at an edge or right, in states of all kinds,
 * held against the plain model: no call throws but what the document says, and a refused one leaves all as it was.
 */
public final class WrongArgumentsTest {
    private static final int[] FEW = {Integer.MIN_VALUE, -1, 0, 1, 2, Integer.MAX_VALUE};
    private static final int[] MANY = {Integer.MIN_VALUE, Integer.MIN_VALUE + 1, -1000, -2, -1, 0, 1, 2, 3, 4, 5, 6, 7, 8, 9, 12, 20, 39, 40,
        41, 255, 256, 500, 999, 1000, 1500, 1501, 65536, Integer.MAX_VALUE - 1, Integer.MAX_VALUE};
    private static final int STATES = 6;
    // what an object answers behind its 512th call is free; a state takes some of them
    private static final int CALLS = 400;

    private final int state;
    private TitleDesk desk;
    private Model model;
    private int made = CALLS;

    private WrongArgumentsTest(int state) {
        this.state = state;
    }

    public static void main(String[] args) {
        for (int state = 0; state < STATES; state++) {
            WrongArgumentsTest test = new WrongArgumentsTest(state);
            test.calls();
            test.questions();
            test.longQuestions();
        }
        Check.end();
    }

    private void renew() {
        if (made < CALLS) {
            return;
        }
        made = 0;
        desk = new TitleDesk();
        model = new Model();
        if (state > 0) {
            String text = "tongues 3; width 0 4; width 2 40; beats 1; at 1 \"aaa bbb ccc d\" \"x\"; at 9 \"y\"; blank 500; at 999 \"z\";"
                + " cut A 2 4; cut H 998 999;";
            feed(text);
            same("text", desk.text(text.length()), model.text(text.length()));
        }
        if (state > 1) {
            same("hand", desk.hand(5, true), model.hand(5, true));
            same("cut", desk.cut(0, true) ? 1 : 0, model.cut(0, true) ? 1 : 0);
        }
        if (state > 2) {
            feed("one two three");
            same("change", desk.change(0, 2, 13) ? 1 : 0, model.change(0, 2, 13) ? 1 : 0);
        }
        if (state > 3) {
            same("hand", desk.hand(999, true), model.hand(999, true));
            for (int i = 0; i < state - 2; i++) {
                same("heard", desk.heard(7), model.heard(7));
            }
        }
        feed(state == 5 ? Check.repeat("tongues 1;", 150, "") : "abc");
    }

    private void feed(String text) {
        byte[] bytes = Check.bytes(text);
        for (int from = 0; from < bytes.length; from += 20) {
            int[] n = new int[5];
            for (int i = 0; i < 20; i++) {
                n[i / 4] = n[i / 4] << 8 | (from + i < bytes.length ? bytes[from + i] : 0);
            }
            same("feed", desk.feed(n[0], n[1], n[2], n[3], n[4]), model.feed(n));
        }
    }

    private void same(String call, int got, int want) {
        made++;
        Check.due("state " + state + ": " + call, got, want);
    }

    private void sameThrown(String call, IntSupplier got, IntSupplier want) {
        int thrown = Check.thrown(want);
        same(call + " throws", Check.thrown(got), thrown);
        if (thrown == 0) {
            same(call, got.getAsInt(), want.getAsInt());
        }
    }

    /** Calls that may change the state, each on a desk that is there since some calls alone. */
    private void calls() {
        for (int a : MANY) {
            made = CALLS;
            renew();
            same("heard(" + a + ")", desk.heard(a), model.heard(a));
            same("cut(" + a + ", true)", desk.cut(a, true) ? 1 : 0, model.cut(a, true) ? 1 : 0);
            same("hand(" + a + ", false)", desk.hand(a, false), model.hand(a, false));
            same("hand(" + a + ", true)", desk.hand(a, true), model.hand(a, true));
            all();
            same("text(" + a + ")", desk.text(a), model.text(a));
            same("feed", desk.feed(a, a, a, a, a), model.feed(a, a, a, a, a));
            all();
        }
        for (int title : FEW) {
            for (int tongue : FEW) {
                for (int n : MANY) {
                    renew();
                    String call = "change(" + title + ", " + tongue + ", " + n + ")";
                    same(call, desk.change(title, tongue, n) ? 1 : 0, model.change(title, tongue, n) ? 1 : 0);
                }
            }
        }
        all();
    }

    private void all() {
        for (int what = 0; what <= 8; what++) {
            same("count(" + what + ")", desk.count(what), model.count(what));
        }
        for (int what = 0; what <= 5; what++) {
            same("shown(" + what + ")", desk.shown(what), model.shown(what));
        }
        same("fault(0)", desk.fault(0), model.fault(0));
        same("fault(1)", desk.fault(1), model.fault(1));
        for (int title = 0; title < 4; title++) {
            int asked = title;
            sameThrown("title(" + title + ", 2)", () -> desk.title(asked, 2), () -> model.title(asked, 2));
            sameThrown("title(" + title + ", 4)", () -> desk.title(asked, 4), () -> model.title(asked, 4));
        }
    }

    private void questions() {
        for (int a : MANY) {
            renew();
            same("fault(" + a + ")", desk.fault(a), model.fault(a));
            same("shown(" + a + ")", desk.shown(a), model.shown(a));
            same("count(" + a + ")", desk.count(a), model.count(a));
            for (int b : MANY) {
                renew();
                sameThrown("title(" + a + ", " + b + ")", () -> desk.title(a, b), () -> model.title(a, b));
                sameThrown("pages(" + a + ", " + b + ")", () -> desk.pages(a, b), () -> model.pages(a, b));
                sameThrown("price(" + a + ", " + b + ")", () -> desk.price(a, b), () -> model.price(a, b));
            }
        }
    }

    private void longQuestions() {
        for (int a : FEW) {
            for (int b : FEW) {
                for (int c : FEW) {
                    renew();
                    same("now(" + a + ", " + b + ", " + c + ")", desk.now(a, b, c), model.now(a, b, c));
                    for (int d : FEW) {
                        for (int e : FEW) {
                            renew();
                            same("sign(" + a + ", " + b + ", " + c + ", " + d + ", " + e + ")", desk.sign(a, b, c, d, e),
                                    model.sign(a, b, c, d, e));
                        }
                    }
                }
            }
        }
    }
}
