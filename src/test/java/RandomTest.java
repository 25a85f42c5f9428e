import java.util.ArrayList;
import java.util.List;
import java.util.Random;

/** Compares the program with the model on texts that are made by chance (the same ones each time). */
public final class RandomTest {
    private static final String[] BINARY = {
        "||", "&&", "|", "^", "&", "==", "!=", "<", "<=", ">", ">=", "<<", ">>", "+", "-", "*"};
    private static final String[] PIECES = {
        ";", ":", "=", "?", "(", ")", "[", "]", "{", "}", "==", "!=", "<", "<=", ">", ">=", "<<", ">>", "+", "-", "*",
        "&", "&&", "|", "||", "^", "~", "!", "->", "reg", "input", "wire", "next", "spec", "A", "E", "U", "AX", "EX",
        "AF", "EF", "AG", "EG", "a", "b0", "zz", "0", "1", "7", "9", "255", "256", "999999999", "1000000000", "@", "_",
        "#x\n", "#", "$", "\u0000", "\u00e9", "abcdefghijklmnopqrstuvwxyzabcde", "abcdefghijklmnopqrstuvwxyzabcdef"};

    private final Random random;
    private final StringBuilder out = new StringBuilder();
    private final List<String> plain = new ArrayList<>();
    private final List<String> regs = new ArrayList<>();
    private final List<String> specs = new ArrayList<>();
    private int made;

    private RandomTest(long seed) {
        random = new Random(seed);
    }

    public static void main(String[] args) {
        int[] faults = new int[5];
        byte[] before = {};
        for (int seed = 0; seed < 6000; seed++) {
            RandomTest t = new RandomTest(seed);
            String text = t.text();
            if (seed % 3 == 1) {
                text = t.spoilt(text);
            }
            byte[] bytes = Check.bytes(text);
            Model m = new Model(bytes);
            faults[m.fault]++;
            CircuitChecker x = new CircuitChecker();
            if (seed % 4 == 3 && before.length < 2000) {
                Check.feed(x, before);
                x.read();
            }
            new Comparison("seed " + seed + ": ", m, x, t.random).read(bytes);
            before = bytes;
        }
        System.out.println("sound texts " + faults[0] + ", with a fault 1 " + faults[1] + ", 2 " + faults[2]
            + ", 3 " + faults[3] + ", 4 " + faults[4]);
        Check.finish();
    }

    private int below(int n) {
        return random.nextInt(n);
    }

    private String oneOf(List<String> from) {
        return from.get(below(from.size()));
    }

    private void add(String piece) {
        if (out.length() > 0 && (Character.isLetterOrDigit(piece.charAt(0)) || below(6) == 0 || joins(piece))) {
            out.append(below(30) == 0 ? " #note;\n" : below(12) == 0 ? "\t" : below(12) == 0 ? "\r\n" : " ");
        }
        out.append(piece);
    }

    /** Whether a piece could be one sign with what stands before it. */
    private boolean joins(String piece) {
        char last = out.charAt(out.length() - 1);
        return "=!<>&|-".indexOf(last) >= 0 && "=<>&|".indexOf(piece.charAt(0)) >= 0;
    }

    private String newName() {
        made++;
        return (below(2) == 0 ? "n" : "Ab_") + made;
    }

    private String text() {
        int regBits = 1 + below(8);
        int inputBits = below(4);
        int lines = 2 + below(below(20) == 0 ? 90 : 14);
        int largest = below(20) == 0 ? 9 : 4;
        List<String> waiting = new ArrayList<>();
        for (int n = 0; n < lines; n++) {
            int sort = below(10);
            if (n == 0 || sort < 2 && regBits > 0) {
                int bits = 1 + below(Math.max(1, regBits + (below(60) == 0 ? 2 : 0)));
                regBits -= bits;
                String name = newName();
                add("reg");
                add(name);
                add(":");
                add("" + bits);
                add("=");
                add("" + below((1 << bits) + (below(60) == 0 ? 2 : 0)));
                add(";");
                plain.add(name);
                regs.add(name);
                waiting.add(name);
            } else if (sort == 2 && inputBits > 0) {
                int bits = 1 + below(inputBits + (below(40) == 0 ? 2 : 0));
                inputBits -= bits;
                String name = newName();
                add("input");
                add(name);
                add(":");
                add("" + bits);
                add(";");
                plain.add(name);
            } else if (sort < 5) {
                String name = newName();
                add("wire");
                add(name);
                add("=");
                expression(0, below(largest));
                add(";");
                plain.add(name);
            } else if (sort < 7 && !waiting.isEmpty()) {
                next(waiting, largest);
            } else {
                String name = newName();
                add("spec");
                add(name);
                add("=");
                formula(0, below(largest + 1));
                add(";");
                specs.add(name);
            }
        }
        while (!waiting.isEmpty() && below(4) > 0) {
            next(waiting, largest);
        }
        return out.toString();
    }

    private void next(List<String> waiting, int largest) {
        add("next");
        add(waiting.remove(below(waiting.size())));
        add("=");
        expression(0, below(largest));
        add(";");
    }

    private void expression(int depth, int size) {
        int n = below(12);
        if (size <= 0 || depth > 30 || n < 1) {
            add(below(3) > 0 ? oneOf(plain) : "" + (below(3) == 0 ? below(below(40) == 0 ? 300 : 256) : below(10)));
        } else if (n < 6) {
            expression(depth, size - 1 - below(2));
            String sign = BINARY[below(BINARY.length)];
            add(sign.equals("*") && below(3) > 0 ? "^" : sign);
            expression(depth, size - 1 - below(2));
        } else if (n < 8) {
            add("(");
            expression(depth + 1, size - 1);
            add(")");
        } else if (n < 9) {
            add("(");
            expression(depth + 1, size - 1);
            add("?");
            expression(depth + 1, size - 1);
            add(":");
            expression(depth + 1, size - 1);
            add(")");
        } else {
            add(new String[] {"-", "~", "!"}[below(3)]);
            if (below(2) == 0) {
                add("(");
                expression(depth + 1, size - 1);
                add(")");
            } else {
                expression(depth + 1, 0);
            }
        }
    }

    private void formula(int depth, int size) {
        int n = below(12);
        if (size <= 0 || n < 1) {
            if (!specs.isEmpty() && below(3) == 0) {
                add(oneOf(specs));
            } else {
                add("{");
                expression(depth + 1, below(3));
                add("}");
            }
        } else if (n < 4) {
            formula(depth, size - 1 - below(2));
            add(new String[] {"&&", "||", "->"}[below(3)]);
            formula(depth, size - 1 - below(2));
        } else if (n < 6) {
            add("(");
            formula(depth + 1, size - 1);
            add(")");
        } else if (n < 8) {
            add(below(2) == 0 ? "A" : "E");
            add("[");
            formula(depth + 1, size - 1);
            add("U");
            formula(depth + 1, size - 1);
            add("]");
        } else {
            add(new String[] {"!", "AX", "EX", "AF", "EF", "AG", "EG"}[below(7)]);
            add("(");
            formula(depth + 1, size - 1);
            add(")");
        }
    }

    /** The text with pieces put in, taken out or put in place of others. */
    private String spoilt(String text) {
        StringBuilder s = new StringBuilder(text);
        int times = 1 + below(2);
        for (int n = 0; n < times && s.length() > 2; n++) {
            int at = below(s.length());
            switch (below(4)) {
                case 0: s.insert(at, PIECES[below(PIECES.length)]); break;
                case 1: s.insert(at, " " + PIECES[below(PIECES.length)] + " "); break;
                case 2: s.delete(at, Math.min(s.length(), at + 1 + below(3))); break;
                default: s.setLength(at);
            }
        }
        return s.toString();
    }
}
