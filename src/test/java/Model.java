import java.util.ArrayList;
import java.util.List;
import java.util.NoSuchElementException;
import java.util.TreeMap;
import java.util.regex.Matcher;
import java.util.regex.Pattern;

/**
 * The document's words in the slowest plain way: every way of breaking is tried, every bar is walked.
 * ModelTest holds TitleDesk against it.
 */
final class Model {
    private static final Pattern TOKEN = Pattern.compile("[a-z]+|[A-H]|[0-9]+|\"[ !#-~]*\"|;");
    private static final Pattern STRING = Pattern.compile("[!#-~]+( [!#-~]+)*");

    private static final class Mark {
        int bar;
        int end = 1000;
        List<String> strings;
    }

    private static final class Text {
        int tongues = 1;
        int beats = 4;
        int[] widths = {20, 20, 20, 20};
        int[] speeds = {4, 4, 4, 4};
        List<Mark> titles = new ArrayList<>();
        TreeMap<Integer, int[]> cuts = new TreeMap<>();
    }

    /** One way: the rows, two of each page, an empty one where there is none. */
    private static final class Way {
        List<String> rows = new ArrayList<>();
        List<Integer> words = new ArrayList<>();
        int price;
    }

    private StringBuilder tape = new StringBuilder();
    private Text text = new Text();
    private int fault = 0;
    private int faultPlace = -1;
    private int pos;
    private boolean following;
    private int doubts;
    private int ahead;
    private final boolean[] on = new boolean[8];
    private final String[][] changes = new String[40][4];

    Model() {
        begin();
    }

    int feed(int... numbers) {
        if (tape.length() + 20 > 1500) {
            return -1;
        }
        for (int number : numbers) {
            for (int i = 3; i >= 0; i--) {
                tape.append((char) (number >>> 8 * i & 255));
            }
        }
        return tape.length();
    }

    // ---- the text

    private static final class Stop extends Exception {
        private static final long serialVersionUID = 1;
    }

    /** Notes all faults up to the first token that can't stand there; the least place, then number, is the one. */
    private static final class Parser {
        final String source;
        final Text text = new Text();
        final List<int[]> faults = new ArrayList<>();
        int at = 0;
        int marks = 0;
        Mark last = null;
        int place;
        String token;

        Parser(String source) {
            this.source = source;
        }

        void peek() {
            while (at < source.length() && (source.charAt(at) == ' ' || source.charAt(at) == '\n')) {
                at++;
            }
            place = at;
            Matcher matcher = TOKEN.matcher(source).region(at, source.length());
            token = at == source.length() ? "END" : matcher.lookingAt() ? matcher.group() : "BAD";
        }

        void note(int place, int number) {
            faults.add(new int[] {place, number});
        }

        void stop() throws Stop {
            note(place, 1);
            throw new Stop();
        }

        void pass() {
            at += token.length();
            peek();
        }

        int number(int least, int most) throws Stop {
            if (!token.matches("[0-9]+")) {
                stop();
            }
            java.math.BigInteger value = new java.math.BigInteger(token);
            boolean within = value.bitLength() < 20 && value.intValue() >= least && value.intValue() <= most;
            if (!within) {
                note(place, 2);
            }
            pass();
            return within ? value.intValue() : -1;
        }

        void semicolon() throws Stop {
            if (!token.equals(";")) {
                stop();
            }
            pass();
        }

        void all() throws Stop {
            peek();
            if (!token.equals("tongues")) {
                stop();
            }
            pass();
            text.tongues = number(1, 4);
            if (text.tongues == -1) {
                throw new Stop();
            }
            semicolon();
            List<String> told = new ArrayList<>();
            while (token.equals("width") || token.equals("speed") || token.equals("beats")) {
                setting(told);
            }
            while (!token.equals("END")) {
                item();
            }
        }

        void setting(List<String> told) throws Stop {
            String kind = token;
            int begin = place;
            pass();
            int tongue = kind.equals("beats") ? 0 : number(0, text.tongues - 1);
            if (told.contains(kind + tongue)) {
                note(begin, 3);
            }
            told.add(kind + tongue);
            int value = kind.equals("beats") ? number(1, 8) : kind.equals("speed") ? number(1, 20) : number(4, 40);
            if (kind.equals("beats")) {
                text.beats = value;
            } else if (tongue >= 0) {
                (kind.equals("speed") ? text.speeds : text.widths)[tongue] = value;
            }
            semicolon();
        }

        void item() throws Stop {
            int begin = place;
            String kind = token;
            if (!kind.equals("at") && !kind.equals("blank") && !kind.equals("cut")) {
                stop();
            }
            pass();
            if (kind.equals("cut")) {
                cut(begin);
                return;
            }
            marks++;
            if (marks > 40) {
                note(begin, 2);
            }
            int barPlace = place;
            Mark mark = new Mark();
            mark.bar = number(1, 999);
            if (last != null && mark.bar <= last.bar) {
                note(barPlace, 3);
            }
            if (last != null) {
                last.end = mark.bar;
            }
            last = mark;
            if (kind.equals("at")) {
                title(mark);
            } else {
                semicolon();
            }
        }

        void title(Mark mark) throws Stop {
            List<String> own = new ArrayList<>();
            List<Integer> places = new ArrayList<>();
            while (own.isEmpty() || token.startsWith("\"")) {
                if (!token.startsWith("\"")) {
                    stop();
                }
                String string = token.substring(1, token.length() - 1);
                if (!STRING.matcher(string).matches() && (own.isEmpty() || !string.isEmpty())) {
                    stop();
                }
                if (own.size() >= text.tongues) {
                    note(place, 2);
                }
                own.add(string);
                places.add(place);
                pass();
            }
            semicolon();
            mark.strings = new ArrayList<>();
            List<Integer> misfits = new ArrayList<>();
            for (int tongue = 0; tongue < text.tongues; tongue++) {
                boolean has = tongue < own.size() && !own.get(tongue).isEmpty();
                mark.strings.add(own.get(has ? tongue : 0));
                if (faults.isEmpty() && best(mark.strings.get(tongue), text.widths[tongue]) == null) {
                    misfits.add(places.get(has ? tongue : 0));
                }
            }
            for (int misfit : misfits) {
                note(misfit, 4);
            }
            text.titles.add(mark);
        }

        int cuts = 0;

        void cut(int begin) throws Stop {
            cuts++;
            if (cuts > 8) {
                note(begin, 2);
            }
            if (!token.matches("[A-H]")) {
                stop();
            }
            int name = token.charAt(0) - 'A';
            if (text.cuts.containsKey(name)) {
                note(place, 3);
            }
            pass();
            int first = number(1, 999);
            int secondPlace = place;
            int second = number(1, 999);
            if (second <= first) {
                note(secondPlace, 3);
            }
            text.cuts.put(name, new int[] {first, second});
            semicolon();
        }
    }

    int text(int n) {
        if (n < 0 || n > tape.length()) {
            return -2;
        }
        Parser parser = new Parser(tape.substring(0, n));
        tape.setLength(0);
        try {
            parser.all();
        } catch (Stop e) {
            // its fault is noted
        }
        fault = 0;
        faultPlace = -1;
        for (int[] f : parser.faults) {
            if (fault == 0 || f[0] < faultPlace || f[0] == faultPlace && f[1] < fault) {
                faultPlace = f[0];
                fault = f[1];
            }
        }
        if (fault != 0) {
            return -1;
        }
        text = parser.text;
        begin();
        return text.titles.size();
    }

    int fault(int what) {
        return what == 0 ? fault : what == 1 ? faultPlace : -1;
    }

    // ---- rows and pages

    /** The way of a string; null: a word is too wide, or it needs more than six pages. */
    private static Way best(String string, int width) {
        String[] words = string.split(" ");
        for (String word : words) {
            if (word.length() > width) {
                return null;
            }
        }
        for (int pages = 1; pages <= 6; pages++) {
            Way way = best(words, 0, 2 * pages, true, width, new TreeMap<>());
            if (way != null) {
                return way;
            }
        }
        return null;
    }

    /** The best way of the words from one on in just so many rows, every second of which may be empty. */
    private static Way best(String[] words, int from, int rows, boolean first, int width, TreeMap<Integer, Way> known) {
        if (rows == 0) {
            return from == words.length ? new Way() : null;
        }
        int key = rows * 10000 + from;
        if (known.containsKey(key)) {
            return known.get(key);
        }
        Way best = null;
        for (int take = first ? 1 : 0; from + take <= words.length; take++) {
            String row = String.join(" ", List.of(words).subList(from, from + take));
            if (row.length() > width) {
                break;
            }
            Way rest = best(words, from + take, rows - 1, !first, width, known);
            if (rest == null) {
                continue;
            }
            Way way = new Way();
            way.rows.add(row);
            way.rows.addAll(rest.rows);
            way.words.add(take);
            way.words.addAll(rest.words);
            way.price = rest.price + (take == 0 ? 0 : (width - row.length()) * (width - row.length()));
            if (best == null || way.price < best.price || way.price == best.price && isAhead(way.words, best.words)) {
                best = way;
            }
        }
        known.put(key, best);
        return best;
    }

    private static boolean isAhead(List<Integer> words, List<Integer> others) {
        for (int i = 0; i < words.size(); i++) {
            if (!words.get(i).equals(others.get(i))) {
                return words.get(i) > others.get(i);
            }
        }
        return false;
    }

    private final TreeMap<String, Way> ways = new TreeMap<>();

    private Way way(int title, int tongue) {
        String change = changes[title][tongue];
        String string = change != null ? change : text.titles.get(title).strings.get(tongue);
        int width = text.widths[tongue];
        return ways.computeIfAbsent(width + ":" + string, k -> best(string, width));
    }

    private int pageCount(int title, int tongue) {
        return way(title, tongue).rows.size() / 2;
    }

    private int steps(int title) {
        int steps = 0;
        for (int tongue = 0; tongue < text.tongues; tongue++) {
            steps = Math.max(steps, pageCount(title, tongue));
        }
        return steps;
    }

    // ---- the evening

    void begin() {
        pos = 0;
        following = true;
        doubts = 0;
        ahead = -1;
        java.util.Arrays.fill(on, false);
        for (String[] change : changes) {
            java.util.Arrays.fill(change, null);
        }
    }

    private boolean isCut(int bar) {
        for (int name : text.cuts.keySet()) {
            int[] span = text.cuts.get(name);
            if (on[name] && bar >= span[0] && bar < span[1]) {
                return true;
            }
        }
        return false;
    }

    private void settle() {
        while (isCut(pos)) {
            pos++;
        }
    }

    boolean cut(int name, boolean isOn) {
        if (!text.cuts.containsKey(name)) {
            return false;
        }
        on[name] = isOn;
        settle();
        return true;
    }

    boolean change(int title, int tongue, int n) {
        if (title < 0 || title >= text.titles.size() || tongue < 0 || tongue >= text.tongues || n < 0
                || n > tape.length()) {
            return false;
        }
        String string = tape.substring(0, n);
        if (n > 0 && (!STRING.matcher(string).matches() || best(string, text.widths[tongue]) == null)) {
            return false;
        }
        changes[title][tongue] = n == 0 ? null : string;
        tape.setLength(0);
        return true;
    }

    int heard(int bar) {
        if (bar < 1 || bar > 999 || !following) {
            return -1;
        }
        boolean goesOn = doubts > 0 && bar - 1 == ahead && bar > pos;
        boolean near = bar - pos >= 0 && bar - pos < 5;
        ahead = bar;
        if (near || goesOn) {
            pos = bar;
            doubts = 0;
            settle();
        } else {
            doubts++;
            if (doubts == 3) {
                following = false;
            }
        }
        return pos;
    }

    int hand(int bar, boolean isFollowing) {
        if (bar < 0 || bar > 999) {
            return -1;
        }
        pos = bar;
        settle();
        doubts = 0;
        following = isFollowing;
        return pos;
    }

    // ---- answers

    private List<Integer> countedBars(int title) {
        List<Integer> bars = new ArrayList<>();
        for (int bar = text.titles.get(title).bar; bar < text.titles.get(title).end; bar++) {
            if (!isCut(bar)) {
                bars.add(bar);
            }
        }
        return bars;
    }

    private static int stepIn(int steps, List<Integer> bars, int bar) {
        int step = 0;
        for (int j = 0; j < steps; j++) {
            if (bars.get(j * bars.size() / steps) <= bar) {
                step = j;
            }
        }
        return step;
    }

    private int pageIn(int title, int tongue, int step) {
        return step * pageCount(title, tongue) / steps(title);
    }

    private int tooShort(int title) {
        int greatest = 0;
        List<Integer> bars = countedBars(title);
        for (int tongue = 0; tongue < text.tongues; tongue++) {
            int[] shown = new int[6];
            int steps = steps(title);
            int pages = pageCount(title, tongue);
            for (int bar : bars) {
                shown[stepIn(steps, bars, bar) * pages / steps]++;
            }
            for (int page = 0; page < pageCount(title, tongue); page++) {
                List<String> rows = way(title, tongue).rows;
                int signs = rows.get(2 * page).length() + rows.get(2 * page + 1).length();
                int beats = 0;
                while (beats * text.speeds[tongue] < signs) {
                    beats++;
                }
                greatest = Math.max(greatest, beats - text.beats * shown[page]);
            }
        }
        return greatest;
    }

    private void refuse(int title) {
        if (title < 0 || title >= text.titles.size()) {
            throw new IndexOutOfBoundsException();
        }
    }

    private void refuse(int title, int tongue) {
        refuse(title);
        if (tongue < 0 || tongue >= text.tongues) {
            throw new NoSuchElementException();
        }
    }

    int title(int title, int what) {
        refuse(title);
        switch (what) {
            case 0: return text.titles.get(title).bar;
            case 1: return steps(title);
            case 2: return countedBars(title).size();
            case 3: return tooShort(title);
            case 4:
                for (String change : changes[title]) {
                    if (change != null) {
                        return 1;
                    }
                }
                return 0;
            default: throw new NoSuchElementException();
        }
    }

    int pages(int title, int tongue) {
        refuse(title, tongue);
        return pageCount(title, tongue);
    }

    int price(int title, int tongue) {
        refuse(title, tongue);
        return way(title, tongue).price;
    }

    int sign(int title, int tongue, int page, int row, int k) {
        if (title < 0 || title >= text.titles.size() || tongue < 0 || tongue >= text.tongues || row < 0 || row > 1
                || page < 0 || page >= pageCount(title, tongue)) {
            return -1;
        }
        String signs = way(title, tongue).rows.get(2 * page + row);
        return k < 0 || k >= signs.length() ? -1 : signs.charAt(k);
    }

    private int shownTitle() {
        for (int title = 0; title < text.titles.size(); title++) {
            if (pos >= text.titles.get(title).bar && pos < text.titles.get(title).end) {
                return title;
            }
        }
        return -1;
    }

    int shown(int what) {
        int title = shownTitle();
        if (title == -1 || what < 0 || what > 5 || what - 2 >= text.tongues) {
            return -1;
        }
        int step = stepIn(steps(title), countedBars(title), pos);
        return what == 0 ? title : what == 1 ? step : pageIn(title, what - 2, step);
    }

    int now(int tongue, int row, int k) {
        return tongue < 0 || tongue > 3 ? -1 : sign(shownTitle(), tongue, shown(2 + tongue), row, k);
    }

    int count(int what) {
        int[] counts = {text.tongues, text.titles.size(), text.cuts.size(), pos, following ? 1 : 0, doubts,
            text.widths[0], text.speeds[0], text.beats};
        return what < 0 || what >= counts.length ? -1 : counts[what];
    }
}
