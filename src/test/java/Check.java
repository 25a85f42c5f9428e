import java.nio.charset.StandardCharsets;
import java.util.Arrays;
import java.util.function.Supplier;

/** What the tests share: feeding a text, and telling every answer that is not the one that is due. */
final class Check {
    private static int sentences;
    private static int checked;
    private static int checkedBefore;
    private static int wrong;
    private static String sentence = "";

    private Check() {
    }

    /** The document's words that the next answers are about; a wrong answer is told behind them. */
    static void sentence(String words) {
        endSentence();
        sentences++;
        checkedBefore = checked;
        sentence = words;
    }

    private static void endSentence() {
        if (sentences > 0 && checked == checkedBefore) {
            tell("no answer was looked at");
        }
    }

    private static void tell(String what) {
        wrong++;
        System.out.println(sentence.isEmpty() ? what : "\"" + sentence + "\": " + what);
    }

    static byte[] bytes(String text) {
        return text.getBytes(StandardCharsets.ISO_8859_1);
    }

    static int wordAt(byte[] text, int place) {
        int word = 0;
        for (int i = place; i < place + 4; i++) {
            word = word << 8 | (i < text.length ? text[i] & 255 : 0);
        }
        return word;
    }

    /** Brings a text to the TAPE and answers how many calls that took. */
    static int feed(CircuitChecker x, byte[] text) {
        int calls = 0;
        int before = x.count(5);
        for (int p = 0; p < text.length; p += 20) {
            x.feed(wordAt(text, p), wordAt(text, p + 4), wordAt(text, p + 8), wordAt(text, p + 12), wordAt(text, p + 16));
            calls++;
        }
        x.end(before + text.length);
        return calls + 2;
    }

    static int read(CircuitChecker x, String text) {
        feed(x, bytes(text));
        return x.read();
    }

    static CircuitChecker reader(String text) {
        CircuitChecker x = new CircuitChecker();
        read(x, text);
        return x;
    }

    static void due(String what, long got, long want) {
        checked++;
        if (got != want) {
            tell(what + " answered " + got + ", due is " + want);
        }
    }

    static void due(String what, boolean got, boolean want) {
        due(what, got ? 1 : 0, want ? 1 : 0);
    }

    static void due(String what, String got, String want) {
        checked++;
        if (!got.equals(want)) {
            tell(what + " answered " + got + ", due is " + want);
        }
    }

    static void dueThrow(String what, Class<? extends RuntimeException> want, Supplier<Object> call) {
        checked++;
        String got;
        try {
            got = "answered " + call.get();
        } catch (RuntimeException e) {
            if (e.getClass() == want) {
                return;
            }
            got = "threw " + e;
        }
        tell(what + " " + got + ", due is " + want.getSimpleName());
    }

    /** A text that must be read without a FAULT. */
    static void dueSound(String text) {
        CircuitChecker x = reader(text);
        due("fault(0) of " + shown(text), x.fault(0), 0);
        due("fault(1) of " + shown(text), x.fault(1), 0);
    }

    /** A text that must have a FAULT at a place. */
    static void dueFault(String text, int what, int place) {
        CircuitChecker x = new CircuitChecker();
        due("read() of " + shown(text), read(x, text), -1);
        due("fault(0) of " + shown(text), x.fault(0), what);
        due("fault(1) of " + shown(text), x.fault(1), place);
    }

    /** A text in which the sign @ stands before the place of the FAULT (and is taken out). */
    static void dueFaultAtMark(int what, String text) {
        int mark = text.indexOf('@');
        dueFault(text.substring(0, mark) + text.substring(mark + 1), what, mark);
    }

    static String shown(String text) {
        return text.length() <= 200 ? text : text.substring(0, 100) + " .. " + text.substring(text.length() - 100);
    }

    static String times(int n, String part) {
        char[] none = new char[n];
        Arrays.fill(none, 'x');
        return new String(none).replace("x", part);
    }

    static void finish() {
        endSentence();
        System.out.println((sentences > 0 ? sentences + " sentences, " : "") + checked + " answers looked at, "
            + wrong + " wrong");
        if (wrong != 0 || checked == 0) {
            System.exit(1);
        }
    }
}
