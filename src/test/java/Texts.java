/** Texts that just use up a limit of the document. */
final class Texts {
    private Texts() {
    }

    /** Wires w0, w1 and so on, each but the first with the one before it. */
    static String wires(int number) {
        StringBuilder s = new StringBuilder();
        for (int n = 0; n < number; n++) {
            s.append("wire w").append(n).append(" = ").append(n == 0 ? "1" : "w" + (n - 1)).append(";");
        }
        return s.toString();
    }

    /** Specs s0, s1 and so on; all but the first are named ones, so that they cost 8 in all. */
    static String specs(int number) {
        StringBuilder s = new StringBuilder();
        for (int n = 0; n < number; n++) {
            s.append("spec s").append(n).append(" = ").append(n == 0 ? "{1}" : "s" + (n - 1)).append(";");
        }
        return s.toString();
    }

    /** A text of so many WORDS, NUMBERS and signs (12 or more), all but the last ; of its last LINE. */
    static String openTokens(int number) {
        int left = number - 10;
        return "spec s = {1};spec t = " + (left % 2 == 0 ? "!s" : "s") + Check.times((left - 1) / 2, "&&s");
    }

    /** A sound text of so many WORDS, NUMBERS and signs (13 or more). */
    static String tokens(int number) {
        return openTokens(number - 1) + ";";
    }

    /** LINES with these COSTS (a multiple of 4; of 8 if there are less than 900). */
    static String costing(int costs) {
        StringBuilder s = new StringBuilder("wire filled = 1");
        int left = costs;
        if (left % 8 != 0) {
            s.append("*1");
            left -= 900;
        }
        s.append(Check.times(left / 24, "&1")).append(";");
        for (left %= 24; left > 0; left -= 8) {
            s.append("spec filled").append(left).append(" = {1};");
        }
        return s.toString();
    }

    static String nested(int times, String open, String inside, String close) {
        return Check.times(times, open) + inside + Check.times(times, close);
    }
}
