import java.util.ArrayList;
import java.util.List;
import java.util.function.IntSupplier;

/** Runs of calls, drawn by numbers that are always the same, held against the plain model. */
public final class ModelTest {
    private static final int RUNS = 3000;
    // what an object answers behind its 512th call is free
    private static final int CALLS = 512;

    private long seed;
    private final TitleDesk desk = new TitleDesk();
    private final Model model = new Model();
    private final List<String> calls = new ArrayList<>();
    private int made = 0;

    private ModelTest(int run) {
        seed = run * 7919L + 17;
    }

    public static void main(String[] args) {
        for (int run = 0; run < RUNS; run++) {
            if (!new ModelTest(run).go()) {
                Check.due("run " + run, 0, 1);
                break;
            }
        }
        Check.end();
    }

    private int draw(int bound) {
        seed = seed * 6364136223846793005L + 1442695040888963407L;
        return (int) ((seed >>> 33) % bound);
    }

    private boolean chance(int percent) {
        return draw(100) < percent;
    }

    private String pick(String... of) {
        return of[draw(of.length)];
    }

    /** Mostly within a span, at times just outside of it or far away. */
    private int near(int least, int most) {
        int kind = draw(40);
        return kind == 0 ? least - 1 : kind == 1 ? most + 1 : kind == 2 ? Integer.MIN_VALUE
            : kind == 3 ? Integer.MAX_VALUE : least + draw(most - least + 1);
    }

    private boolean go() {
        // a text may take 75 feeds; a step asks the desk up to four times
        while (made < CALLS - 90) {
            if (!step(made == 0 ? 0 : draw(100))) {
                for (String call : calls.subList(Math.max(0, calls.size() - 60), calls.size())) {
                    System.out.println("  " + call);
                }
                return false;
            }
        }
        return true;
    }

    private boolean same(String call, IntSupplier got, IntSupplier want) {
        int gotThrown = Check.thrown(got);
        int wantThrown = Check.thrown(want);
        int gotValue = gotThrown == 0 ? got.getAsInt() : 0;
        int wantValue = wantThrown == 0 ? want.getAsInt() : 0;
        return sameValue(call, gotThrown * 100000 + gotValue, wantThrown * 100000 + wantValue);
    }

    private boolean sameValue(String call, int got, int want) {
        calls.add(call + " = " + got);
        made += call.equals("feed") ? 1 : 4;
        Check.due(call, got, want);
        return got == want;
    }

    private boolean step(int kind) {
        if (kind < 4) {
            return text();
        }
        if (kind < 12) {
            return change();
        }
        if (kind < 20) {
            int name = near(0, 7);
            boolean on = chance(60);
            return sameValue("cut(" + name + ", " + on + ")", desk.cut(name, on) ? 1 : 0, model.cut(name, on) ? 1 : 0);
        }
        if (kind < 40) {
            int bar = chance(70) ? desk.count(3) + draw(9) - 2 : near(1, chance(50) ? 60 : 999);
            return sameValue("heard(" + bar + ")", desk.heard(bar), model.heard(bar));
        }
        if (kind < 52) {
            int bar = near(0, chance(80) ? 60 : 999);
            boolean following = chance(85);
            return sameValue("hand(" + bar + ", " + following + ")", desk.hand(bar, following),
                    model.hand(bar, following));
        }
        if (kind == 52) {
            desk.begin();
            model.begin();
            calls.add("begin()");
            return true;
        }
        return ask(kind);
    }

    private boolean ask(int kind) {
        int titles = Math.max(1, desk.count(1));
        int title = near(0, titles - 1);
        int tongue = near(0, Math.max(0, desk.count(0) - 1));
        int what = kind < 70 ? near(0, 4) : kind < 80 ? near(0, 5) : near(0, 8);
        if (kind < 70) {
            return same("title(" + title + ", " + what + ")", () -> desk.title(title, what), () -> model.title(title, what));
        }
        if (kind < 80) {
            return sameValue("shown(" + what + ")", desk.shown(what), model.shown(what));
        }
        if (kind < 84) {
            return sameValue("count(" + what + ")", desk.count(what), model.count(what));
        }
        if (kind < 87) {
            return same("pages(" + title + ", " + tongue + ")", () -> desk.pages(title, tongue),
                    () -> model.pages(title, tongue));
        }
        if (kind < 90) {
            return same("price(" + title + ", " + tongue + ")", () -> desk.price(title, tongue),
                    () -> model.price(title, tongue));
        }
        int page = near(0, 2);
        int row = near(0, 1);
        int k = near(0, 12);
        if (kind < 96) {
            return sameValue("sign(" + title + ", " + tongue + ", " + page + ", " + row + ", " + k + ")",
                    desk.sign(title, tongue, page, row, k), model.sign(title, tongue, page, row, k));
        }
        return sameValue("now(" + tongue + ", " + row + ", " + k + ")", desk.now(tongue, row, k), model.now(tongue, row, k));
    }

    private boolean feed(String text) {
        calls.add("tape: " + text);
        byte[] bytes = Check.bytes(text);
        boolean fine = true;
        for (int from = 0; from < bytes.length; from += 20) {
            int[] n = new int[5];
            for (int i = 0; i < 20; i++) {
                n[i / 4] = n[i / 4] << 8 | (from + i < bytes.length ? bytes[from + i] & 255 : 0);
            }
            fine = fine && sameValue("feed", desk.feed(n[0], n[1], n[2], n[3], n[4]), model.feed(n));
        }
        return fine;
    }

    private boolean text() {
        String source = source();
        int n = chance(97) ? source.length() : near(0, source.length() + 20);
        return feed(source) && sameValue("text(" + n + ")", desk.text(n), model.text(n))
            && sameValue("fault(0)", desk.fault(0), model.fault(0))
            && sameValue("fault(1)", desk.fault(1), model.fault(1));
    }

    private boolean change() {
        String string = chance(85) ? words(4 + draw(8), 14) : chance(50) ? "" : pick(" a", "a ", "a  b", "\"", "\u00e9", "a\n");
        int title = near(0, Math.max(0, desk.count(1) - 1));
        int tongue = near(0, desk.count(0) - 1);
        int n = chance(95) ? string.length() : near(0, string.length());
        return feed(string) && sameValue("change(" + title + ", " + tongue + ", " + n + ")",
                desk.change(title, tongue, n) ? 1 : 0, model.change(title, tongue, n) ? 1 : 0);
    }

    private String words(int widest, int most) {
        StringBuilder words = new StringBuilder();
        int number = 1 + draw(most);
        for (int i = 0; i < number; i++) {
            words.append(i > 0 ? " " : "");
            int length = 1 + draw(chance(60) ? Math.min(3, widest) : widest);
            for (int k = 0; k < length; k++) {
                words.append((char) ('a' + draw(26)));
            }
        }
        return words.toString();
    }

    /** A text that is mostly right; at times some of its bytes are spoilt. */
    private String source() {
        int tongues = 1 + draw(4);
        StringBuilder source = new StringBuilder("tongues ").append(tongues).append(";");
        for (int tongue = 0; tongue < tongues; tongue++) {
            if (chance(75)) {
                source.append(" width ").append(tongue).append(' ').append(4 + draw(chance(70) ? 6 : 37)).append(';');
            }
            if (chance(50)) {
                source.append(" speed ").append(tongue).append(' ').append(1 + draw(chance(70) ? 3 : 20)).append(';');
            }
        }
        source.append(chance(60) ? " beats " + (1 + draw(8)) + ";" : "").append(chance(3) ? " beats 3;" : "");
        int bar = 0;
        int items = chance(3) ? 45 : draw(9);
        boolean tiny = items == 45;
        for (int i = 0; i < items; i++) {
            bar += 1 + draw(tiny ? 2 : 12) - (chance(1) ? 3 : 0);
            if (chance(75)) {
                source.append("at ").append(bar).append(strings(tongues, tiny)).append(";");
            } else {
                source.append(" blank ").append(bar).append(';');
            }
        }
        for (int i = 0; i < draw(9); i++) {
            int first = 1 + draw(50);
            char name = chance(95) ? (char) ('A' + i) : (char) ('A' + draw(9));
            source.append("\ncut ").append(name).append(' ').append(first).append(' ').append(first + draw(20) + 1).append(';');
        }
        return spoil(source);
    }

    private String strings(int tongues, boolean tiny) {
        StringBuilder strings = new StringBuilder();
        int number = 1 + draw(tongues) + (chance(1) ? 1 : 0);
        for (int i = 0; i < number; i++) {
            String string = tiny ? "a" : i > 0 && chance(20) ? "" : words(chance(90) ? 4 : 6, chance(90) ? 8 : 16);
            strings.append(" \"").append(string).append('"');
        }
        return strings.toString();
    }

    private String spoil(StringBuilder source) {
        for (int times = chance(25) ? 1 + draw(2) : 0; times > 0; times--) {
            int place = draw(source.length());
            int kind = draw(4);
            if (kind == 0) {
                source.deleteCharAt(place);
            } else if (kind == 1) {
                source.insert(place, pick(" ", "\n", ";", "\"", "0", "9", "A", "I", "x", "\t", "\u00ff", "at ", "width 0 9;", "cut A 1 2;"));
            } else if (kind == 2) {
                source.setCharAt(place, pick(" ", "\"", ";", "7", "b", "H").charAt(0));
            } else {
                source.setLength(place);
            }
            if (source.length() == 0) {
                return "";
            }
        }
        return source.toString();
    }
}
