import java.util.Arrays;
import java.util.NoSuchElementException;

/** A desk for titles shown over a stage. DOC.md tells what every call promises. */
public final class TitleDesk {
    public static final int NONE = -1;

    private static final int NOT_SO_MANY = -2;
    private static final int TAPE_ROOM = 1500;
    private static final int FEED_BYTES = 20;

    private static final int MOST_TONGUES = 4;
    private static final int LEAST_WIDTH = 4;
    private static final int MOST_WIDTH = 40;
    private static final int MOST_SPEED = 20;
    private static final int MOST_BEATS = 8;
    private static final int PLAIN_WIDTH = 20;
    private static final int PLAIN_SPEED = 4;
    private static final int PLAIN_BEATS = 4;
    private static final int LAST_BAR = 999;
    private static final int MOST_MARKS = 40;
    private static final int MOST_CUTS = 8;

    private static final int PAGE_ROWS = 2;
    private static final int MOST_PAGES = 6;
    private static final int MOST_ROWS = MOST_PAGES * PAGE_ROWS;
    // words of one sign fill a row with the most words: every second sign is one
    private static final int MOST_WORDS = MOST_ROWS * (MOST_WIDTH / 2);

    private static final int MOST_AHEAD = 4;
    private static final int MOST_DOUBTS = 3;

    private static final int NO_SUCH_TOKEN = 1;
    private static final int OUT_OF_SPAN = 2;
    private static final int TOLD_OR_NOT_ABOVE = 3;
    private static final int DOES_NOT_FIT = 4;

    private Tape tape;
    private Tape textTape;
    private Script script;
    private Script draft;
    private final Reader reader;
    private final Board board;
    private final Evening evening;

    public TitleDesk() {
        tape = new Tape();
        textTape = new Tape();
        script = new Script();
        draft = new Script();
        reader = new Reader(draft, tape.signs);
        board = new Board(script, textTape.signs);
        evening = new Evening(script);
    }

    public int feed(int a, int b, int c, int d, int e) {
        if (!tape.hasRoom()) {
            return NONE;
        }
        tape.append(a);
        tape.append(b);
        tape.append(c);
        tape.append(d);
        tape.append(e);
        return tape.size;
    }

    public int text(int n) {
        if (!tape.holds(n)) {
            return NOT_SO_MANY;
        }
        boolean fine = reader.read(tape.signs, n, draft);
        if (fine) {
            takeDraft();
            board.useScript(script, textTape.signs);
            evening.start(script);
        }
        tape.clear();
        return fine ? script.titles : NONE;
    }

    // Tapes and scripts change places, so that no new text needs new room.
    private void takeDraft() {
        Tape readTape = tape;
        tape = textTape;
        textTape = readTape;
        Script readScript = draft;
        draft = script;
        script = readScript;
    }

    public int fault(int what) {
        switch (what) {
            case 0: return reader.faultNumber;
            case 1: return reader.faultPlace;
            default: return NONE;
        }
    }

    public void begin() {
        board.restoreAll();
        evening.start(script);
    }

    public boolean cut(int name, boolean on) {
        if (!script.hasCut(name)) {
            return false;
        }
        evening.switchCut(name, on);
        return true;
    }

    public boolean change(int title, int tongue, int n) {
        if (!script.hasTitle(title) || !script.hasTongue(tongue) || !tape.holds(n)) {
            return false;
        }
        if (n == 0) {
            board.restore(title, tongue);
        } else if (Words.areProper(tape.signs, 0, n)
                && Words.fit(tape.signs, 0, n, script.widthOf(tongue))) {
            board.replace(title, tongue, Arrays.copyOf(tape.signs, n));
        } else {
            return false;
        }
        tape.clear();
        return true;
    }

    public int heard(int bar) {
        if (bar < 1 || bar > LAST_BAR || !evening.following) {
            return NONE;
        }
        evening.hear(bar);
        return evening.pos;
    }

    public int hand(int bar, boolean following) {
        if (bar < 0 || bar > LAST_BAR) {
            return NONE;
        }
        evening.lead(bar, following);
        return evening.pos;
    }

    public int title(int title, int what) throws IndexOutOfBoundsException, NoSuchElementException {
        if (!script.hasTitle(title)) {
            throw new IndexOutOfBoundsException("no such title");
        }
        switch (what) {
            case 0: return script.barOf(title);
            case 1: return board.stepsOf(title);
            case 2: return countedBarsOf(title);
            case 3: return board.shortOf(title, countedBarsOf(title));
            case 4: return board.isChanged(title) ? 1 : 0;
            default: throw new NoSuchElementException("no such what");
        }
    }

    public int pages(int title, int tongue) throws IndexOutOfBoundsException, NoSuchElementException {
        refuseUnknown(title, tongue);
        return board.wordingOf(title, tongue).pages;
    }

    public int price(int title, int tongue) throws IndexOutOfBoundsException, NoSuchElementException {
        refuseUnknown(title, tongue);
        return board.wordingOf(title, tongue).price;
    }

    private void refuseUnknown(int title, int tongue) {
        if (!script.hasTitle(title)) {
            throw new IndexOutOfBoundsException("no such title");
        }
        if (!script.hasTongue(tongue)) {
            throw new NoSuchElementException("no such tongue");
        }
    }

    public int sign(int title, int tongue, int page, int row, int k) {
        return board.wordingOf(title, tongue).signAt(page, row, k);
    }

    public int shown(int what) {
        int title = script.titleAt(evening.pos);
        if (title == NONE) {
            return NONE;
        }
        switch (what) {
            case 0: return title;
            case 1: return shownStep(title);
            case 2:
            case 3:
            case 4:
            case 5: return shownPage(title, what - 2, shownStep(title));
            default: return NONE;
        }
    }

    public int now(int tongue, int row, int k) {
        int title = script.titleAt(evening.pos);
        if (title == NONE) {
            return NONE;
        }
        int page = shownPage(title, tongue, shownStep(title));
        return board.wordingOf(title, tongue).signAt(page, row, k);
    }

    public int count(int what) {
        switch (what) {
            case 0: return script.tongues;
            case 1: return script.titles;
            case 2: return script.cuts;
            case 3: return evening.pos;
            case 4: return evening.following ? 1 : 0;
            case 5: return evening.doubts;
            case 6: return script.widthOf(0);
            case 7: return script.speedOf(0);
            case 8: return script.beatsOfBar();
            default: return NONE;
        }
    }

    private int countedBarsOf(int title) {
        return evening.countedBars(script.barOf(title), script.endOf(title));
    }

    private int shownStep(int title) {
        int ahead = evening.countedBars(script.barOf(title), evening.pos);
        return board.stepBehind(title, ahead, countedBarsOf(title));
    }

    private int shownPage(int title, int tongue, int step) {
        return script.hasTongue(tongue) ? board.pageInStep(title, tongue, step) : NONE;
    }

    /** times * whole / parts, cut; 0 where there are no parts to divide by. */
    private static int share(int times, int whole, int parts) {
        return parts < 1 ? 0 : times * whole / parts;
    }

    /** The bytes that were fed and are not used yet. */
    private static final class Tape {
        final byte[] signs = new byte[TAPE_ROOM];
        int size;

        boolean hasRoom() {
            return size + FEED_BYTES <= TAPE_ROOM;
        }

        boolean holds(int n) {
            return n >= 0 && n <= size;
        }

        void append(int number) {
            for (int shift = 24; shift >= 0 && size < TAPE_ROOM; shift -= 8) {
                signs[size] = (byte) (number >> shift);
                size++;
            }
        }

        void clear() {
            size = 0;
        }
    }

    /** What is asked of a string before it is broken into rows. */
    private static final class Words {
        private static boolean areWithin(byte[] signs, int from, int length) {
            return from >= 0 && length >= 0 && length <= signs.length && from <= signs.length - length;
        }

        static boolean areProper(byte[] signs, int from, int length) {
            if (!areWithin(signs, from, length)) {
                return false;
            }
            // as if a blank stood ahead: a first blank is a second one then
            int ahead = ' ';
            for (int i = from; i < from + length; i++) {
                int sign = signs[i];
                if (sign < ' ' || sign > '~' || sign == '"' || (sign == ' ' && ahead == ' ')) {
                    return false;
                }
                ahead = sign;
            }
            return ahead != ' ';
        }

        static boolean fit(byte[] signs, int from, int length, int width) {
            int rows = leastRows(signs, from, length, width);
            return rows != NONE && rows <= MOST_ROWS;
        }

        // Rows filled one behind the other are the least; NONE if a word has no room in any.
        private static int leastRows(byte[] signs, int from, int length, int width) {
            if (!areWithin(signs, from, length)) {
                return NONE;
            }
            int rows = 0;
            int rowLength = width;
            int wordLength = 0;
            for (int i = from; i <= from + length; i++) {
                if (i < from + length && signs[i] != ' ') {
                    wordLength++;
                    continue;
                }
                if (wordLength > width) {
                    return NONE;
                }
                rowLength += 1 + wordLength;
                if (rowLength > width) {
                    rows++;
                    rowLength = wordLength;
                }
                wordLength = 0;
            }
            return rows;
        }
    }

    /** The TEXT: tongues with their settings, marks (an at or a blank each), titles, cuts. */
    private static final class Script {
        int tongues = 1;
        int titles;
        int cuts;
        private int marks;
        private int beats;
        // 0 stands for a setting that is not told, and for a cut that is none
        final int[] widths = new int[MOST_TONGUES];
        final int[] speeds = new int[MOST_TONGUES];
        private final int[] cutFirsts = new int[MOST_CUTS];
        private final int[] cutBehinds = new int[MOST_CUTS];
        private final int[] markBars = new int[MOST_MARKS];
        private final int[] titleMarks = new int[MOST_MARKS];
        private final int[] stringFroms = new int[MOST_MARKS * MOST_TONGUES];
        private final int[] stringLengths = new int[MOST_MARKS * MOST_TONGUES];

        void clear() {
            tongues = 1;
            titles = 0;
            cuts = 0;
            marks = 0;
            beats = 0;
            Arrays.fill(widths, 0);
            Arrays.fill(speeds, 0);
            Arrays.fill(cutFirsts, 0);
            Arrays.fill(cutBehinds, 0);
        }

        boolean hasTongue(int tongue) {
            return tongue >= 0 && tongue < tongues && tongue < MOST_TONGUES;
        }

        boolean hasTitle(int title) {
            return title >= 0 && title < titles && title < MOST_MARKS;
        }

        boolean hasCut(int name) {
            return name >= 0 && name < MOST_CUTS && cutBehinds[name] > 0;
        }

        boolean isFullOfMarks() {
            return marks >= MOST_MARKS;
        }

        boolean isFullOfCuts() {
            return cuts >= MOST_CUTS;
        }

        boolean tells(int[] settings, int tongue) {
            return hasTongue(tongue) && tongue < settings.length && settings[tongue] > 0;
        }

        void tell(int[] settings, int tongue, int told) {
            if (hasTongue(tongue) && tongue < settings.length) {
                settings[tongue] = told;
            }
        }

        boolean tellsBeats() {
            return beats > 0;
        }

        void tellBeats(int told) {
            beats = told;
        }

        int widthOf(int tongue) {
            return tells(widths, tongue) ? widths[tongue] : PLAIN_WIDTH;
        }

        int speedOf(int tongue) {
            return tells(speeds, tongue) ? speeds[tongue] : PLAIN_SPEED;
        }

        int beatsOfBar() {
            return tellsBeats() ? beats : PLAIN_BEATS;
        }

        void addMark(int bar) {
            if (!isFullOfMarks()) {
                markBars[marks] = bar;
                marks++;
            }
        }

        /** The latest mark is a title; all its tongues have its first string until they get their own. */
        void addTitle(int from, int length) {
            if (titles >= marks || titles >= MOST_MARKS) {
                return;
            }
            titleMarks[titles] = marks - 1;
            titles++;
            for (int tongue = 0; tongue < MOST_TONGUES; tongue++) {
                setString(tongue, from, length);
            }
        }

        /** The latest title has this string in this tongue. */
        void setString(int tongue, int from, int length) {
            int slot = slotOf(titles - 1, tongue);
            if (slot != NONE) {
                stringFroms[slot] = from;
                stringLengths[slot] = length;
            }
        }

        void addCut(int name, int first, int behind) {
            if (name >= 0 && name < MOST_CUTS) {
                cutFirsts[name] = first;
                cutBehinds[name] = behind;
                cuts++;
            }
        }

        int latestBar() {
            return barOfMark(marks - 1, 0);
        }

        int barOf(int title) {
            return hasTitle(title) ? barOfMark(titleMarks[title], 0) : 0;
        }

        /** The first BAR in which a title stands no more. */
        int endOf(int title) {
            return hasTitle(title) ? barOfMark(titleMarks[title] + 1, LAST_BAR + 1) : 0;
        }

        private int barOfMark(int mark, int without) {
            return mark >= 0 && mark < marks && mark < MOST_MARKS ? markBars[mark] : without;
        }

        int titleAt(int bar) {
            for (int title = 0; title < titles; title++) {
                if (barOf(title) <= bar && bar < endOf(title)) {
                    return title;
                }
            }
            return NONE;
        }

        int stringFrom(int title, int tongue) {
            int slot = slotOf(title, tongue);
            return slot == NONE ? 0 : stringFroms[slot];
        }

        int stringLength(int title, int tongue) {
            int slot = slotOf(title, tongue);
            return slot == NONE ? 0 : stringLengths[slot];
        }

        private static int slotOf(int title, int tongue) {
            if (title < 0 || title >= MOST_MARKS || tongue < 0 || tongue >= MOST_TONGUES) {
                return NONE;
            }
            return title * MOST_TONGUES + tongue;
        }

        boolean cutTakes(int name, int bar) {
            return hasCut(name) && cutFirsts[name] <= bar && bar < cutBehinds[name];
        }

        int cutFirst(int name) {
            return hasCut(name) ? cutFirsts[name] : LAST_BAR + 1;
        }

        int cutBehind(int name) {
            return hasCut(name) ? cutBehinds[name] : 0;
        }
    }

    /** Takes TOKENS from bytes, one at a step. */
    private static final class Scanner {
        static final int END = 0;
        static final int WORD = 1;
        static final int NAME = 2;
        static final int NUMBER = 3;
        static final int STRING = 4;
        static final int SEMICOLON = 5;
        static final int UNKNOWN = 6;

        private static final int FAR_OUT_OF_SPAN = 100000;

        byte[] signs;
        int kind;
        int place;
        // a number's value, or the index of a NAME's letter
        int value;
        private int length;
        private int behind;

        Scanner(byte[] first) {
            signs = first;
        }

        void open(byte[] bytes, int size) {
            signs = bytes;
            length = Math.max(0, Math.min(size, bytes.length));
            behind = 0;
            step();
        }

        void step() {
            place = behind;
            while (place < length && (signs[place] == ' ' || signs[place] == '\n')) {
                place++;
            }
            behind = place;
            if (place >= length) {
                kind = END;
                return;
            }
            int sign = signs[place];
            if (sign >= 'a' && sign <= 'z') {
                takeWord();
            } else if (sign >= '0' && sign <= '9') {
                takeNumber();
            } else if (sign == '"') {
                takeString();
            } else {
                takeSingle(sign);
            }
        }

        private void takeWord() {
            kind = WORD;
            while (behind < length && signs[behind] >= 'a' && signs[behind] <= 'z') {
                behind++;
            }
        }

        private void takeNumber() {
            kind = NUMBER;
            value = 0;
            while (behind < length && signs[behind] >= '0' && signs[behind] <= '9') {
                // held down, so that no row of digits wraps round into a span
                value = Math.min(FAR_OUT_OF_SPAN, value * 10 + signs[behind] - '0');
                behind++;
            }
        }

        private void takeString() {
            behind++;
            while (behind < length && signs[behind] >= ' ' && signs[behind] <= '~' && signs[behind] != '"') {
                behind++;
            }
            boolean closed = behind < length && signs[behind] == '"';
            kind = closed ? STRING : UNKNOWN;
            behind = closed ? behind + 1 : behind;
        }

        private void takeSingle(int sign) {
            behind++;
            value = sign - 'A';
            if (sign == ';') {
                kind = SEMICOLON;
            } else {
                kind = value >= 0 && value < MOST_CUTS ? NAME : UNKNOWN;
            }
        }

        boolean isWord(String word) {
            if (kind != WORD || behind - place != word.length()) {
                return false;
            }
            for (int i = 0; i < word.length(); i++) {
                if (signs[place + i] != word.charAt(i)) {
                    return false;
                }
            }
            return true;
        }

        int stringFrom() {
            return place + 1;
        }

        int stringLength() {
            return behind - place - 2;
        }
    }

    /** Reads a TEXT into a script up to its first FAULT; what reads answers whether all is well. */
    private static final class Reader {
        int faultNumber;
        int faultPlace = NONE;
        private final Scanner scanner;
        private Script script;
        private int number;
        private int numberPlace;

        Reader(Script first, byte[] signs) {
            script = first;
            scanner = new Scanner(signs);
        }

        boolean read(byte[] signs, int length, Script into) {
            faultNumber = 0;
            faultPlace = NONE;
            script = into;
            script.clear();
            scanner.open(signs, length);
            return readTongues() && readSettings(length) && readItems(length);
        }

        private boolean fail(int fault, int place) {
            faultNumber = fault;
            faultPlace = place;
            return false;
        }

        private boolean readTongues() {
            if (!scanner.isWord("tongues")) {
                return fail(NO_SUCH_TOKEN, scanner.place);
            }
            scanner.step();
            if (!readNumber(1, MOST_TONGUES)) {
                return false;
            }
            script.tongues = number;
            return readSemicolon();
        }

        private boolean readNumber(int least, int most) {
            if (scanner.kind != Scanner.NUMBER) {
                return fail(NO_SUCH_TOKEN, scanner.place);
            }
            number = scanner.value;
            numberPlace = scanner.place;
            if (number < least || number > most) {
                return fail(OUT_OF_SPAN, numberPlace);
            }
            scanner.step();
            return true;
        }

        private boolean readSemicolon() {
            if (scanner.kind != Scanner.SEMICOLON) {
                return fail(NO_SUCH_TOKEN, scanner.place);
            }
            scanner.step();
            return true;
        }

        // Each setting takes bytes, so there are never as many of them as bytes.
        private boolean readSettings(int length) {
            for (int i = 0; i < length; i++) {
                boolean fine;
                if (scanner.isWord("width")) {
                    fine = readTongueSetting(script.widths, LEAST_WIDTH, MOST_WIDTH);
                } else if (scanner.isWord("speed")) {
                    fine = readTongueSetting(script.speeds, 1, MOST_SPEED);
                } else if (scanner.isWord("beats")) {
                    fine = readBeats();
                } else {
                    return true;
                }
                if (!fine) {
                    return false;
                }
            }
            return true;
        }

        // That a setting is told already is known with its tongue: this place is ahead of all that follows.
        private boolean readTongueSetting(int[] settings, int least, int most) {
            int place = scanner.place;
            scanner.step();
            if (!readNumber(0, script.tongues - 1)) {
                return false;
            }
            int tongue = number;
            if (script.tells(settings, tongue)) {
                return fail(TOLD_OR_NOT_ABOVE, place);
            }
            if (!readNumber(least, most)) {
                return false;
            }
            script.tell(settings, tongue, number);
            return readSemicolon();
        }

        private boolean readBeats() {
            if (script.tellsBeats()) {
                return fail(TOLD_OR_NOT_ABOVE, scanner.place);
            }
            scanner.step();
            if (!readNumber(1, MOST_BEATS)) {
                return false;
            }
            script.tellBeats(number);
            return readSemicolon();
        }

        private boolean readItems(int length) {
            for (int i = 0; i < length && scanner.kind != Scanner.END; i++) {
                boolean fine;
                if (scanner.isWord("at")) {
                    fine = readMark() && readStrings() && readSemicolon() && stringsFit();
                } else if (scanner.isWord("blank")) {
                    fine = readMark() && readSemicolon();
                } else if (scanner.isWord("cut")) {
                    fine = readCut();
                } else {
                    fine = fail(NO_SUCH_TOKEN, scanner.place);
                }
                if (!fine) {
                    return false;
                }
            }
            return true;
        }

        private boolean readMark() {
            if (script.isFullOfMarks()) {
                return fail(OUT_OF_SPAN, scanner.place);
            }
            scanner.step();
            if (!readNumber(1, LAST_BAR)) {
                return false;
            }
            if (number <= script.latestBar()) {
                return fail(TOLD_OR_NOT_ABOVE, numberPlace);
            }
            script.addMark(number);
            return true;
        }

        private boolean readStrings() {
            int from = scanner.stringFrom();
            int length = scanner.stringLength();
            if (scanner.kind != Scanner.STRING || !Words.areProper(scanner.signs, from, length)) {
                return fail(NO_SUCH_TOKEN, scanner.place);
            }
            script.addTitle(from, length);
            scanner.step();
            for (int tongue = 1; tongue <= MOST_TONGUES && scanner.kind == Scanner.STRING; tongue++) {
                if (!readFurtherString(tongue)) {
                    return false;
                }
            }
            return true;
        }

        private boolean readFurtherString(int tongue) {
            int from = scanner.stringFrom();
            int length = scanner.stringLength();
            if (length > 0 && !Words.areProper(scanner.signs, from, length)) {
                return fail(NO_SUCH_TOKEN, scanner.place);
            }
            if (!script.hasTongue(tongue)) {
                return fail(OUT_OF_SPAN, scanner.place);
            }
            if (length > 0) {
                script.setString(tongue, from, length);
            }
            scanner.step();
            return true;
        }

        // A tongue without a string of its own has the first one's place, too.
        private boolean stringsFit() {
            int title = script.titles - 1;
            int least = NONE;
            for (int tongue = 0; tongue < script.tongues; tongue++) {
                int from = script.stringFrom(title, tongue);
                int length = script.stringLength(title, tongue);
                int place = from - 1;
                if (!Words.fit(scanner.signs, from, length, script.widthOf(tongue))
                        && (least == NONE || place < least)) {
                    least = place;
                }
            }
            return least == NONE || fail(DOES_NOT_FIT, least);
        }

        private boolean readCut() {
            if (script.isFullOfCuts()) {
                return fail(OUT_OF_SPAN, scanner.place);
            }
            scanner.step();
            if (scanner.kind != Scanner.NAME) {
                return fail(NO_SUCH_TOKEN, scanner.place);
            }
            int name = scanner.value;
            if (script.hasCut(name)) {
                return fail(TOLD_OR_NOT_ABOVE, scanner.place);
            }
            scanner.step();
            if (!readNumber(1, LAST_BAR)) {
                return false;
            }
            int first = number;
            if (!readNumber(1, LAST_BAR)) {
                return false;
            }
            if (number <= first) {
                return fail(TOLD_OR_NOT_ABOVE, numberPlace);
            }
            script.addCut(name, first, number);
            return readSemicolon();
        }
    }

    /** The string of a title's tongue as tonight, with the rows that a breaker has written into it. */
    private static final class Wording {
        byte[] signs;
        int from;
        int length;
        boolean isChanged;
        int pages;
        int price;
        // a second row that is none ends where its page's first one does
        private final int[] rowEnds = new int[MOST_ROWS];

        Wording(byte[] none) {
            signs = none;
        }

        void setString(byte[] bytes, int first, int size, boolean changed) {
            signs = bytes;
            from = first;
            length = size;
            isChanged = changed;
        }

        void setRowEnd(int row, int end) {
            if (row >= 0 && row < MOST_ROWS) {
                rowEnds[row] = end;
            }
        }

        private int rowBegin(int row) {
            return row > 0 && row < MOST_ROWS ? rowEnds[row - 1] + 1 : 0;
        }

        private int rowLength(int row) {
            return row >= 0 && row < MOST_ROWS ? Math.max(0, rowEnds[row] - rowBegin(row)) : 0;
        }

        int signsOf(int page) {
            if (page < 0 || page >= pages) {
                return 0;
            }
            return rowLength(page * PAGE_ROWS) + rowLength(page * PAGE_ROWS + 1);
        }

        int signAt(int page, int pageRow, int k) {
            if (page < 0 || page >= pages || pageRow < 0 || pageRow >= PAGE_ROWS) {
                return NONE;
            }
            int row = page * PAGE_ROWS + pageRow;
            if (k < 0 || k >= rowLength(row)) {
                return NONE;
            }
            int place = from + rowBegin(row) + k;
            return place >= 0 && place < signs.length ? signs[place] : NONE;
        }
    }

    /**
     * Breaks a string into rows and pages. The rows are slots, two a page, and a page's second may stay empty:
     * then the least pages tell the number of slots, and a way is how many words each slot has.
     */
    private static final class Breaker {
        // above every price, and far enough from the greatest number to add a price to it
        private static final int NO_WAY = 1000000;

        private final int[] wordBegins = new int[MOST_WORDS];
        private final int[] wordEnds = new int[MOST_WORDS];
        // the first word that has no room in a row begun with this one
        private final int[] rowStops = new int[MOST_WORDS + 1];
        // the least rows for this word and all behind it
        private final int[] leastRows = new int[MOST_WORDS + 1];
        // the most words that the slots ahead of this one can have
        private final int[] mostAhead = new int[MOST_ROWS + 1];
        // the least price of this slot and those behind it, from a word on
        private final int[][] prices = new int[MOST_ROWS + 1][MOST_WORDS + 1];
        private int words;
        private int width;
        private int slots;

        void layOut(Wording wording, int rowWidth) {
            width = rowWidth;
            findWords(wording);
            fillRows();
            int leastPages = (leastRows[0] + PAGE_ROWS - 1) / PAGE_ROWS;
            slots = Math.min(MOST_ROWS, leastPages * PAGE_ROWS);
            forgetPrices();
            priceWays();
            writeRows(wording);
        }

        private void findWords(Wording wording) {
            words = 0;
            int begin = 0;
            for (int i = 0; i <= wording.length && words < MOST_WORDS; i++) {
                int place = wording.from + i;
                boolean within = i < wording.length && place >= 0 && place < wording.signs.length;
                if (!within || wording.signs[place] == ' ') {
                    wordBegins[words] = begin;
                    wordEnds[words] = i;
                    words++;
                    begin = i + 1;
                }
            }
        }

        private void fillRows() {
            rowStops[words] = words;
            leastRows[words] = 0;
            for (int word = words - 1; word >= 0; word--) {
                int stop = word + 1;
                while (stop < words && wordEnds[stop] - wordBegins[word] <= width) {
                    stop++;
                }
                rowStops[word] = stop;
                leastRows[word] = leastRows[stop] + 1;
            }
            mostAhead[0] = 0;
            for (int slot = 0; slot < MOST_ROWS; slot++) {
                mostAhead[slot + 1] = rowStops[mostAhead[slot]];
            }
        }

        private void forgetPrices() {
            for (int slot = 0; slot <= slots; slot++) {
                for (int word = 0; word <= words; word++) {
                    prices[slot][word] = NO_WAY;
                }
            }
        }

        // Only words that the slots ahead can reach, and whose rest the slots behind can hold, have a way.
        private void priceWays() {
            prices[slots][words] = 0;
            for (int slot = slots - 1; slot >= 0; slot--) {
                for (int word = mostAhead[slot]; word >= 0 && leastRows[word] <= slots - slot; word--) {
                    prices[slot][word] = leastPrice(slot, word);
                }
            }
        }

        private int leastPrice(int slot, int word) {
            boolean mayBeEmpty = slot % PAGE_ROWS != 0;
            int least = mayBeEmpty ? prices[slot + 1][word] : NO_WAY;
            for (int stop = word + 1; stop <= rowStops[word]; stop++) {
                least = Math.min(least, priceWith(slot, word, stop));
            }
            return least;
        }

        // of a slot that has the words from one up to the one ahead of another, and of those behind it
        private int priceWith(int slot, int word, int stop) {
            int lack = width - (wordEnds[stop - 1] - wordBegins[word]);
            return lack * lack + prices[slot + 1][stop];
        }

        // From the first slot on, the most words of those that keep the least price.
        private void writeRows(Wording wording) {
            int word = 0;
            for (int slot = 0; slot < slots; slot++) {
                word = longestStop(slot, word);
                wording.setRowEnd(slot, word > 0 ? wordEnds[word - 1] : 0);
            }
            wording.pages = slots / PAGE_ROWS;
            wording.price = prices[0][0];
        }

        private int longestStop(int slot, int word) {
            for (int stop = rowStops[word]; stop > word; stop--) {
                if (priceWith(slot, word, stop) == prices[slot][word]) {
                    return stop;
                }
            }
            return word;
        }
    }

    /** All wordings of tonight: those of the script, but for the changed ones. */
    private static final class Board {
        private final Wording[] wordings = new Wording[MOST_MARKS * MOST_TONGUES];
        private final Wording noWording;
        private final Breaker breaker = new Breaker();
        private Script script;
        private byte[] textSigns;

        Board(Script first, byte[] signs) {
            script = first;
            textSigns = signs;
            noWording = new Wording(signs);
            for (int i = 0; i < wordings.length; i++) {
                wordings[i] = new Wording(signs);
            }
        }

        void useScript(Script used, byte[] signs) {
            script = used;
            textSigns = signs;
            for (int title = 0; title < script.titles; title++) {
                for (int tongue = 0; tongue < script.tongues; tongue++) {
                    restore(title, tongue);
                }
            }
        }

        void restoreAll() {
            for (int title = 0; title < script.titles; title++) {
                for (int tongue = 0; tongue < script.tongues; tongue++) {
                    if (wordingOf(title, tongue).isChanged) {
                        restore(title, tongue);
                    }
                }
            }
        }

        void restore(int title, int tongue) {
            if (isThere(title, tongue)) {
                Wording wording = wordingOf(title, tongue);
                int from = script.stringFrom(title, tongue);
                wording.setString(textSigns, from, script.stringLength(title, tongue), false);
                breaker.layOut(wording, script.widthOf(tongue));
            }
        }

        void replace(int title, int tongue, byte[] signs) {
            if (isThere(title, tongue)) {
                Wording wording = wordingOf(title, tongue);
                wording.setString(signs, 0, signs.length, true);
                breaker.layOut(wording, script.widthOf(tongue));
            }
        }

        private boolean isThere(int title, int tongue) {
            return script.hasTitle(title) && script.hasTongue(tongue);
        }

        /** One without pages if there is no such title or tongue. */
        Wording wordingOf(int title, int tongue) {
            return isThere(title, tongue) ? wordings[title * MOST_TONGUES + tongue] : noWording;
        }

        boolean isChanged(int title) {
            for (int tongue = 0; tongue < script.tongues; tongue++) {
                if (wordingOf(title, tongue).isChanged) {
                    return true;
                }
            }
            return false;
        }

        int stepsOf(int title) {
            int steps = 0;
            for (int tongue = 0; tongue < script.tongues; tongue++) {
                steps = Math.max(steps, wordingOf(title, tongue).pages);
            }
            return steps;
        }

        /** The step of a bar that has so many of the title's counted bars ahead: the latest that has begun. */
        int stepBehind(int title, int ahead, int bars) {
            int steps = stepsOf(title);
            for (int step = steps - 1; step > 0; step--) {
                if (share(step, bars, steps) <= ahead) {
                    return step;
                }
            }
            return 0;
        }

        int pageInStep(int title, int tongue, int step) {
            return share(step, wordingOf(title, tongue).pages, stepsOf(title));
        }

        int shortOf(int title, int bars) {
            int steps = stepsOf(title);
            int greatest = 0;
            for (int tongue = 0; tongue < script.tongues; tongue++) {
                Wording wording = wordingOf(title, tongue);
                int speed = script.speedOf(tongue);
                for (int page = 0; page < wording.pages; page++) {
                    int needed = share(1, wording.signsOf(page) + speed - 1, speed);
                    int given = script.beatsOfBar() * barsOfPage(page, wording.pages, steps, bars);
                    greatest = Math.max(greatest, needed - given);
                }
            }
            return greatest;
        }

        private static int barsOfPage(int page, int pages, int steps, int bars) {
            int sum = 0;
            for (int step = 0; step < steps; step++) {
                if (share(step, pages, steps) == page) {
                    sum += share(step + 1, bars, steps) - share(step, bars, steps);
                }
            }
            return sum;
        }
    }

    /** Where the evening stands, who leads it, and which cuts are on. */
    private static final class Evening {
        int pos;
        boolean following = true;
        int doubts;
        private int latestInDoubt = NONE;
        private final boolean[] cutsOn = new boolean[MOST_CUTS];
        private Script script;

        Evening(Script first) {
            script = first;
        }

        void start(Script played) {
            script = played;
            for (int name = 0; name < MOST_CUTS; name++) {
                cutsOn[name] = false;
            }
            pos = 0;
            doubts = 0;
            following = true;
        }

        void lead(int bar, boolean follow) {
            goTo(bar);
            following = follow;
        }

        private void goTo(int bar) {
            pos = behindCuts(bar);
            doubts = 0;
        }

        void hear(int bar) {
            if (bar >= pos && bar <= pos + MOST_AHEAD) {
                goTo(bar);
            } else if (doubts > 0 && bar == latestInDoubt + 1 && bar > pos) {
                goTo(bar);
            } else {
                doubts++;
                latestInDoubt = bar;
                following = doubts < MOST_DOUBTS;
            }
        }

        void switchCut(int name, boolean on) {
            if (name >= 0 && name < MOST_CUTS) {
                cutsOn[name] = on;
                pos = behindCuts(pos);
            }
        }

        // A cut's end may lie in another cut, but never again in one that was left: as many rounds as cuts do.
        private int behindCuts(int bar) {
            int place = bar;
            for (int round = 0; round < MOST_CUTS; round++) {
                for (int name = 0; name < MOST_CUTS; name++) {
                    if (cutsOn[name] && script.cutTakes(name, place)) {
                        place = script.cutBehind(name);
                    }
                }
            }
            return place;
        }

        private int nextCut(int bar) {
            int next = LAST_BAR + 1;
            for (int name = 0; name < MOST_CUTS; name++) {
                if (cutsOn[name] && script.cutFirst(name) > bar) {
                    next = Math.min(next, script.cutFirst(name));
                }
            }
            return next;
        }

        /** The bars from one up to the one ahead of another that are not cut: a run of them a round. */
        int countedBars(int from, int to) {
            int counted = 0;
            int bar = from;
            for (int run = 0; run <= MOST_CUTS && bar < to; run++) {
                int first = Math.min(to, behindCuts(bar));
                int behind = Math.min(to, nextCut(first));
                counted += behind - first;
                bar = behind;
            }
            return counted;
        }
    }
}
