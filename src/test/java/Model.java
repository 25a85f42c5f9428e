import java.nio.charset.StandardCharsets;
import java.util.ArrayList;
import java.util.Arrays;
import java.util.HashMap;
import java.util.List;
import java.util.Map;
import java.util.regex.Matcher;
import java.util.regex.Pattern;

/** The document's TEXT and its meaning, told a second time in the slowest and most literal way. */
final class Model {
    interface Expression {
        int in(int[] valueOfName);
    }

    interface Formula {
        boolean[] states();
    }

    private static final class Fault extends RuntimeException {
        private static final long serialVersionUID = 1;
        final int what;
        final int place;

        Fault(int what, int place) {
            super("fault", null, false, false);
            this.what = what;
            this.place = place;
        }
    }

    private static final class Token {
        final String text;
        final int place;
        final char sort;

        Token(String text, int place, char sort) {
            this.text = text;
            this.place = place;
            this.sort = sort;
        }
    }

    private static final Pattern PARTS = Pattern.compile(
        "(?<blank>[ \\t\\n\\r]+|#[^\\n]*)|(?<word>[A-Za-z][A-Za-z0-9_]*)|(?<number>[0-9]+)"
            + "|(?<sign>==|!=|<=|>=|<<|>>|&&|\\|\\||->|[;:=?()\\[\\]{}<>+\\-*&|^~!])|(?<bad>(?s:.))");
    private static final List<String> KEYWORDS =
        List.of("reg", "input", "wire", "next", "spec", "A", "E", "U", "AX", "EX", "AF", "EF", "AG", "EG");
    private static final List<List<String>> LEVELS = List.of(
        List.of("||"), List.of("&&"), List.of("|"), List.of("^"), List.of("&"), List.of("==", "!="),
        List.of("<", "<=", ">", ">="), List.of("<<", ">>"), List.of("+", "-"), List.of("*"));

    int fault;
    int place;
    final List<String> names = new ArrayList<>();
    final List<String> kinds = new ArrayList<>();
    final List<Integer> widths = new ArrayList<>();
    final List<Expression> wires = new ArrayList<>();
    final Map<Integer, Expression> nexts = new HashMap<>();
    final List<Formula> formulas = new ArrayList<>();
    final List<boolean[]> specs = new ArrayList<>();
    int regBits;
    int inputBits;
    int costs;
    int first;

    private List<Token> tokens;
    private int now;

    Model(byte[] text) {
        try {
            tokens = part(new String(text, StandardCharsets.ISO_8859_1));
            while (token().sort != 'e') {
                line();
            }
            for (Formula f : formulas) {
                specs.add(f.states());
            }
        } catch (Fault f) {
            fault = f.what;
            place = f.place;
            names.clear();
            kinds.clear();
            widths.clear();
            wires.clear();
            nexts.clear();
            specs.clear();
            regBits = 0;
            inputBits = 0;
            costs = 0;
            first = 0;
        }
    }

    private static List<Token> part(String text) {
        List<Token> result = new ArrayList<>();
        Matcher m = PARTS.matcher(text);
        int from = 0;
        while (from < text.length()) {
            m.region(from, text.length());
            if (!m.lookingAt()) {
                throw new AssertionError("no part at " + from);
            }
            if (m.group("blank") == null) {
                char sort = m.group("word") != null ? m.group().length() > 31 ? 'b' : 'w'
                    : m.group("number") != null ? m.group().length() > 9 ? 'b' : 'n'
                    : m.group("sign") != null ? 's' : 'b';
                result.add(new Token(m.group(), from, sort));
            }
            from = m.end();
        }
        result.add(new Token("", text.length(), 'e'));
        return result;
    }

    private Token token() {
        return tokens.get(now);
    }

    private boolean stands(String text) {
        return token().sort != 'b' && token().sort != 'e' && now < 4000 && token().text.equals(text);
    }

    private Fault fault(int what) {
        return new Fault(what, token().place);
    }

    private Fault misplaced() {
        return fault(now >= 4000 && token().sort != 'e' ? 4 : 1);
    }

    private void take(String text) {
        if (!stands(text)) {
            throw misplaced();
        }
        now++;
    }

    private void takeAtCost(int cost) {
        costs += cost;
        if (costs > 3000) {
            throw fault(4);
        }
        now++;
    }

    private boolean nameStands() {
        return token().sort == 'w' && now < 4000 && !KEYWORDS.contains(token().text);
    }

    private int number(int least, int most) {
        if (token().sort != 'n' || now >= 4000) {
            throw misplaced();
        }
        int n = Integer.parseInt(token().text);
        if (n < least || n > most) {
            throw fault(3);
        }
        now++;
        return n;
    }

    private String newName() {
        if (!nameStands()) {
            throw misplaced();
        }
        if (names.contains(token().text)) {
            throw fault(2);
        }
        if (names.size() == 60) {
            throw fault(4);
        }
        return tokens.get(now++).text;
    }

    private void declare(String name, String kind, int width, Expression wire) {
        names.add(name);
        kinds.add(kind);
        widths.add(width);
        wires.add(wire);
    }

    private void line() {
        if (stands("reg")) {
            now++;
            String name = newName();
            take(":");
            int bits = number(1, Math.min(8, 8 - regBits));
            take("=");
            int value = number(0, (1 << bits) - 1);
            take(";");
            regBits += bits;
            first = (first << bits) + value;
            declare(name, "reg", bits, null);
        } else if (stands("input")) {
            now++;
            String name = newName();
            take(":");
            int bits = number(1, 3 - inputBits);
            take(";");
            inputBits += bits;
            declare(name, "input", bits, null);
        } else if (stands("wire")) {
            now++;
            String name = newName();
            take("=");
            Expression e = expression(0);
            take(";");
            declare(name, "wire", 8, e);
        } else if (stands("next")) {
            takeAtCost(8);
            if (!nameStands()) {
                throw misplaced();
            }
            int reg = names.indexOf(token().text);
            if (reg < 0 || !kinds.get(reg).equals("reg") || nexts.containsKey(reg)) {
                throw fault(2);
            }
            now++;
            take("=");
            Expression e = expression(0);
            take(";");
            nexts.put(reg, e);
        } else if (stands("spec")) {
            if (formulas.size() == 30) {
                throw fault(4);
            }
            now++;
            String name = newName();
            take("=");
            Formula f = formula(0);
            take(";");
            formulas.add(f);
            declare(name, "spec", formulas.size() - 1, null);
        } else {
            throw misplaced();
        }
    }

    private void checkDepth(int depth) {
        if (depth > 40) {
            throw fault(4);
        }
    }

    private Expression expression(int depth) {
        checkDepth(depth);
        Expression c = level(0, depth);
        if (!stands("?")) {
            return c;
        }
        takeAtCost(40);
        Expression a = expression(depth + 1);
        take(":");
        Expression b = expression(depth + 1);
        return v -> c.in(v) != 0 ? a.in(v) : b.in(v);
    }

    private Expression level(int level, int depth) {
        if (level == LEVELS.size()) {
            return unary(depth);
        }
        Expression result = level(level + 1, depth);
        while (token().sort == 's' && now < 4000 && LEVELS.get(level).contains(token().text)) {
            String sign = token().text;
            takeAtCost(costOf(sign));
            Expression a = result;
            Expression b = level(level + 1, depth);
            result = v -> apply(sign, a.in(v), b.in(v));
        }
        return result;
    }

    private static int costOf(String sign) {
        switch (sign) {
            case "&": case "|": case "^": case "&&": case "||": case "!": return 24;
            case "==": case "!=": return 32;
            case "<<": case ">>": return 128;
            case "*": return 900;
            default: return 96;
        }
    }

    static int apply(String sign, int a, int b) {
        switch (sign) {
            case "||": return a != 0 || b != 0 ? 1 : 0;
            case "&&": return a != 0 && b != 0 ? 1 : 0;
            case "|": return a | b;
            case "^": return a ^ b;
            case "&": return a & b;
            case "==": return a == b ? 1 : 0;
            case "!=": return a != b ? 1 : 0;
            case "<": return a < b ? 1 : 0;
            case "<=": return a <= b ? 1 : 0;
            case ">": return a > b ? 1 : 0;
            case ">=": return a >= b ? 1 : 0;
            case "<<": return b >= 8 ? 0 : a << b & 255;
            case ">>": return b >= 8 ? 0 : a >> b;
            case "+": return a + b & 255;
            case "-": return a - b & 255;
            default: return a * b & 255;
        }
    }

    private Expression unary(int depth) {
        checkDepth(depth);
        if (stands("-")) {
            takeAtCost(96);
            Expression e = unary(depth + 1);
            return v -> -e.in(v) & 255;
        }
        if (stands("~")) {
            now++;
            Expression e = unary(depth + 1);
            return v -> ~e.in(v) & 255;
        }
        if (stands("!")) {
            takeAtCost(24);
            Expression e = unary(depth + 1);
            return v -> e.in(v) == 0 ? 1 : 0;
        }
        if (stands("(")) {
            now++;
            Expression e = expression(depth + 1);
            take(")");
            return e;
        }
        if (nameStands()) {
            int name = names.indexOf(token().text);
            if (name < 0 || kinds.get(name).equals("spec")) {
                throw fault(2);
            }
            now++;
            return v -> v[name];
        }
        int n = number(0, 255);
        return v -> n;
    }

    private Formula formula(int depth) {
        checkDepth(depth);
        Formula a = either(depth);
        if (!stands("->")) {
            return a;
        }
        now++;
        Formula b = formula(depth + 1);
        return () -> or(not(a.states()), b.states());
    }

    private Formula either(int depth) {
        Formula result = both(depth);
        while (stands("||")) {
            now++;
            Formula a = result;
            Formula b = both(depth);
            result = () -> or(a.states(), b.states());
        }
        return result;
    }

    private Formula both(int depth) {
        Formula result = single(depth);
        while (stands("&&")) {
            now++;
            Formula a = result;
            Formula b = single(depth);
            result = () -> not(or(not(a.states()), not(b.states())));
        }
        return result;
    }

    private Formula single(int depth) {
        checkDepth(depth);
        for (String word : List.of("!", "AX", "EX", "AF", "EF", "AG", "EG")) {
            if (stands(word)) {
                now++;
                Formula f = single(depth + 1);
                return () -> worded(word, f.states());
            }
        }
        if (stands("A") || stands("E")) {
            boolean all = stands("A");
            now++;
            take("[");
            Formula f = formula(depth + 1);
            take("U");
            Formula g = formula(depth + 1);
            take("]");
            return () -> until(all, f.states(), g.states());
        }
        if (stands("(")) {
            now++;
            Formula f = formula(depth + 1);
            take(")");
            return f;
        }
        if (stands("{")) {
            takeAtCost(8);
            Expression e = expression(depth + 1);
            take("}");
            return () -> test(e);
        }
        if (!nameStands()) {
            throw misplaced();
        }
        int name = names.indexOf(token().text);
        if (name < 0 || !kinds.get(name).equals("spec")) {
            throw fault(2);
        }
        now++;
        int spec = widths.get(name);
        return () -> specs.get(spec);
    }

    int stateCount() {
        return 1 << regBits;
    }

    int inputCount() {
        return 1 << inputBits;
    }

    /** The VALUES of all NAMES but specs. */
    int[] values(int state, int inputs) {
        int[] v = new int[names.size()];
        int stateLeft = regBits;
        int inputsLeft = inputBits;
        for (int n = 0; n < v.length; n++) {
            if (kinds.get(n).equals("reg")) {
                stateLeft -= widths.get(n);
                v[n] = (state >> stateLeft) % (1 << widths.get(n));
            } else if (kinds.get(n).equals("input")) {
                inputsLeft -= widths.get(n);
                v[n] = (inputs >> inputsLeft) % (1 << widths.get(n));
            }
        }
        for (int n = 0; n < v.length; n++) {
            if (kinds.get(n).equals("wire")) {
                v[n] = wires.get(n).in(v);
            }
        }
        return v;
    }

    int next(int state, int inputs) {
        int[] v = values(state, inputs);
        int result = 0;
        for (int n = 0; n < v.length; n++) {
            if (kinds.get(n).equals("reg")) {
                int becomes = nexts.containsKey(n) ? nexts.get(n).in(v) : v[n];
                result = (result << widths.get(n)) + becomes % (1 << widths.get(n));
            }
        }
        return result;
    }

    private int[][] nextTable;

    private int[] nextOf(int state) {
        if (nextTable == null) {
            nextTable = new int[stateCount()][inputCount()];
            for (int s = 0; s < stateCount(); s++) {
                for (int i = 0; i < inputCount(); i++) {
                    nextTable[s][i] = next(s, i);
                }
            }
        }
        return nextTable[state];
    }

    private boolean[] test(Expression e) {
        boolean[] result = new boolean[stateCount()];
        for (int s = 0; s < result.length; s++) {
            result[s] = true;
            for (int i = 0; i < inputCount(); i++) {
                result[s] &= e.in(values(s, i)) != 0;
            }
        }
        return result;
    }

    private static boolean[] not(boolean[] a) {
        boolean[] result = new boolean[a.length];
        for (int s = 0; s < a.length; s++) {
            result[s] = !a[s];
        }
        return result;
    }

    private static boolean[] or(boolean[] a, boolean[] b) {
        boolean[] result = new boolean[a.length];
        for (int s = 0; s < a.length; s++) {
            result[s] = a[s] || b[s];
        }
        return result;
    }

    private boolean[] worded(String word, boolean[] f) {
        boolean[] all = new boolean[f.length];
        Arrays.fill(all, true);
        switch (word) {
            case "!": return not(f);
            case "AX": return nextIn(true, f);
            case "EX": return nextIn(false, f);
            case "AF": return until(true, all, f);
            case "EF": return until(false, all, f);
            case "AG": return not(until(false, all, not(f)));
            default: return not(until(true, all, not(f)));
        }
    }

    private boolean[] nextIn(boolean all, boolean[] f) {
        boolean[] result = new boolean[f.length];
        for (int s = 0; s < f.length; s++) {
            int in = 0;
            for (int t : nextOf(s)) {
                in += f[t] ? 1 : 0;
            }
            result[s] = all ? in == inputCount() : in > 0;
        }
        return result;
    }

    private boolean[] until(boolean all, boolean[] f, boolean[] g) {
        boolean[] result = g.clone();
        boolean grown = true;
        while (grown) {
            grown = false;
            boolean[] into = nextIn(all, result);
            for (int s = 0; s < f.length; s++) {
                if (!result[s] && f[s] && into[s]) {
                    result[s] = true;
                    grown = true;
                }
            }
        }
        return result;
    }

    int reachable() {
        boolean[] seen = new boolean[stateCount()];
        seen[first] = true;
        int size = 0;
        for (int round = 0; round < stateCount(); round++) {
            for (int s = 0; s < seen.length; s++) {
                if (seen[s]) {
                    for (int t : nextOf(s)) {
                        seen[t] = true;
                    }
                }
            }
        }
        for (boolean b : seen) {
            size += b ? 1 : 0;
        }
        return size;
    }

    /** The INPUTS of the shortest way to a spec, the least one of them, or null. */
    List<Integer> way(int spec) {
        int[] far = new int[stateCount()];
        Arrays.fill(far, 1000);
        for (int round = 0; round <= stateCount(); round++) {
            for (int s = 0; s < far.length; s++) {
                if (specs.get(spec)[s]) {
                    far[s] = 0;
                }
                for (int t : nextOf(s)) {
                    far[s] = Math.min(far[s], far[t] + 1);
                }
            }
        }
        if (far[first] >= 1000) {
            return null;
        }
        List<Integer> result = new ArrayList<>();
        int s = first;
        while (far[s] > 0) {
            int i = 0;
            while (far[nextOf(s)[i]] != far[s] - 1) {
                i++;
            }
            result.add(i);
            s = nextOf(s)[i];
        }
        return result;
    }
}
