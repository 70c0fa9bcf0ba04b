import java.nio.charset.StandardCharsets;
import java.util.NoSuchElementException;
import java.util.function.IntSupplier;

/** What the tests share: texts put on the tape, answers looked at, and the exit code. */
final class Check {
    static final int INDEX = 1;
    static final int ELEMENT = 2;

    private static int wrong = 0;
    private static String sentence = "";

    private Check() {
    }

    /** The document's sentence that the answers from now on belong to; it is told with each that is wrong. */
    static void sentence(String words) {
        sentence = "[" + words + "] ";
    }

    static void due(String call, long got, long want) {
        if (got != want) {
            wrong++;
            System.out.println(sentence + call + " answered " + got + ", due is " + want);
        }
    }

    static void due(String call, boolean got, boolean want) {
        due(call, got ? 1 : 0, want ? 1 : 0);
    }

    static void due(String call, String got, String want) {
        if (!got.equals(want)) {
            wrong++;
            System.out.println(sentence + call + " answered [" + got + "], due is [" + want + "]");
        }
    }

    /** 1 for an IndexOutOfBoundsException of the class's own, 2 for a NoSuchElementException, 0 for an answer. */
    static int thrown(IntSupplier call) {
        try {
            call.getAsInt();
            return 0;
        } catch (IndexOutOfBoundsException e) {
            return e.getClass() == IndexOutOfBoundsException.class ? INDEX : -INDEX;
        } catch (NoSuchElementException e) {
            return ELEMENT;
        }
    }

    static void dueThrown(String call, IntSupplier asked, int want) {
        due(call + " throws (1 index, 2 element, 0 nothing)", thrown(asked), want);
    }

    static byte[] bytes(String text) {
        return text.getBytes(StandardCharsets.ISO_8859_1);
    }

    /** Feeds a text, filled up with 0 to a multiple of twenty bytes; the last feed's answer. */
    static int feed(TitleDesk desk, String text) {
        byte[] bytes = bytes(text);
        int answer = 0;
        for (int from = 0; from < bytes.length; from += 20) {
            int[] numbers = new int[5];
            for (int i = 0; i < 20; i++) {
                int sign = from + i < bytes.length ? bytes[from + i] & 255 : 0;
                numbers[i / 4] = numbers[i / 4] << 8 | sign;
            }
            answer = desk.feed(numbers[0], numbers[1], numbers[2], numbers[3], numbers[4]);
        }
        return answer;
    }

    static int text(TitleDesk desk, String text) {
        feed(desk, text);
        return desk.text(text.length());
    }

    static boolean change(TitleDesk desk, int title, int tongue, String string) {
        feed(desk, string);
        return desk.change(title, tongue, string.length());
    }

    /** A text with a fault, at the byte that '^' stands ahead of here. */
    static void dueFault(String marked, int fault) {
        int place = marked.indexOf('^');
        String text = marked.replace("^", "");
        TitleDesk desk = new TitleDesk();
        due("text " + text, text(desk, text), -1);
        due("fault(0) of " + text, desk.fault(0), fault);
        due("fault(1) of " + text, desk.fault(1), place);
    }

    /** A text without a fault, and how many titles it has. */
    static void dueTitles(String text, int titles) {
        TitleDesk desk = new TitleDesk();
        due("text " + text, text(desk, text), titles);
        due("fault(0) of " + text, desk.fault(0), 0);
        due("fault(1) of " + text, desk.fault(1), -1);
        due("count(1) of " + text, desk.count(1), titles);
    }

    /** A desk with a text that has no fault. */
    static TitleDesk desk(String text) {
        TitleDesk desk = new TitleDesk();
        text(desk, text);
        if (desk.fault(0) != 0) {
            due("fault of " + text + " at " + desk.fault(1), desk.fault(0), 0);
        }
        return desk;
    }

    static String row(TitleDesk desk, int title, int tongue, int page, int row) {
        StringBuilder signs = new StringBuilder();
        int sign = desk.sign(title, tongue, page, row, 0);
        for (int k = 1; k <= 41 && sign != TitleDesk.NONE; k++) {
            signs.append((char) sign);
            sign = desk.sign(title, tongue, page, row, k);
        }
        return signs.toString();
    }

    /** All rows of a title's tongue: '/' between the rows of a page, '|' between pages. */
    static String rows(TitleDesk desk, int title, int tongue) {
        StringBuilder all = new StringBuilder();
        String first = row(desk, title, tongue, 0, 0);
        for (int page = 0; page <= 6 && !first.isEmpty(); page++) {
            all.append(page > 0 ? "|" : "").append(first);
            String second = row(desk, title, tongue, page, 1);
            all.append(second.isEmpty() ? "" : "/").append(second);
            first = row(desk, title, tongue, page + 1, 0);
        }
        return all.toString();
    }

    /** What a tongue shows now, as rows() writes a page. */
    static String now(TitleDesk desk, int tongue) {
        StringBuilder signs = new StringBuilder();
        for (int row = 0; row < 2; row++) {
            int sign = desk.now(tongue, row, 0);
            signs.append(row == 1 && sign != TitleDesk.NONE ? "/" : "");
            for (int k = 1; k <= 41 && sign != TitleDesk.NONE; k++) {
                signs.append((char) sign);
                sign = desk.now(tongue, row, k);
            }
        }
        return signs.toString();
    }

    static String repeat(String part, int times, String between) {
        StringBuilder all = new StringBuilder();
        for (int i = 0; i < times; i++) {
            all.append(i > 0 ? between : "").append(part);
        }
        return all.toString();
    }

    static void end() {
        System.out.println(wrong == 0 ? "all answers are as due" : wrong + " answers are not as due");
        if (wrong != 0) {
            System.exit(1);
        }
    }
}
