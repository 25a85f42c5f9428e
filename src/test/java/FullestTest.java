import java.util.Random;

/** Texts that use up a limit of the document: what comes of them is compared with the model. */
public final class FullestTest {
    private static final String HEAD =
        "reg a : 5 = 3; reg b : 3 = 1; input i : 2; input j : 1; next a = a + i * 3 ^ b; next b = j ? b + 1 : a;";
    private static final String[] LEAVES = {"a", "b", "i", "j", "0", "1", "77", "255"};
    private static final String[] CLAIMS = {"s", "t", "u"};

    public static void main(String[] args) {
        Comparison.of("the fullest expression", "reg a : 5 = 9; reg b : 3 = 2; input i : 2; input j : 1; wire w = "
            + fullestExpression() + ";");
        Comparison.of("as many signs as can wait", "reg a : 5 = 9; reg b : 3 = 2; input i : 2; input j : 1; wire w = "
            + mostWaitingSigns() + ";");
        Comparison.of("many wires, then many signs", "reg a : 5 = 9; reg b : 3 = 2; input i : 2; input j : 1;"
            + freeWires(50) + "wire w = " + mostWaitingSigns() + ";");
        for (int seed = 0; seed < 20; seed++) {
            Comparison.of("fullest formula " + seed, HEAD + specs() + "spec f = " + fullestFormula(seed) + ";");
        }
        Comparison.of("arrows", HEAD + specs() + "spec f = " + Check.times(20, "s -> t && u || s -> ") + "u;");
        Comparison.of("many tests", "reg a : 8 = 0; input i : 3;" + manyTests());
        Comparison.of("many wires", "reg a : 8 = 0; input i : 3;" + manyWires(58) + "next a = w57;");
        Comparison.of("thirty specs", HEAD + thirtySpecs());
        Comparison.of("all one-bit regs", oneBitRegs());
        Comparison.of("costly signs", HEAD.substring(0, HEAD.indexOf("next")) + "wire w = a * i + b * j * a;");
        rereading();
        Check.finish();
    }

    private static String leaf(int n) {
        return LEAVES[n * 5 % LEAVES.length];
    }

    /** Depth 40, COSTS 3,000: 24 ? that hold two each and 85 signs that hold one. */
    private static String fullestExpression() {
        StringBuilder s = new StringBuilder();
        for (int n = 0; n < 16; n++) {
            s.append(waitingFive(n)).append("(");
        }
        for (int n = 0; n < 24; n++) {
            s.append(leaf(n)).append(" ? ").append(leaf(n + 1)).append(" : ");
        }
        s.append(waitingFive(40)).append("a");
        return s.append(Check.times(16, ")")).toString();
    }

    private static String waitingFive(int n) {
        return leaf(n) + " || " + leaf(n + 3) + " && " + leaf(n + 1) + " | " + leaf(n + 4) + " ^ " + leaf(n + 2) + " & ";
    }

    /** 125 signs wait; none of them hides what stands behind it. */
    private static String mostWaitingSigns() {
        StringBuilder s = new StringBuilder();
        for (int n = 0; n < 40; n++) {
            s.append("0 | ").append(leaf(n)).append(" ^ 255 & (");
        }
        return s.append("0 || 1 && 0 | ").append(leaf(1)).append(" ^ 255 & b").append(Check.times(40, ")")).toString();
    }

    private static String specs() {
        return "spec s = { a < 9 + i }; spec t = { b != 2 }; spec u = { a ^ b ^ 21 };"
            + "spec few = { a == 30 && b == 1 }; spec none = { 0 };";
    }

    /** At each of 40 depths three sets wait: before ||, && and U. */
    private static String fullestFormula(int seed) {
        Random random = new Random(seed);
        StringBuilder f = new StringBuilder();
        for (int n = 0; n < 40; n++) {
            f.append(random.nextInt(9) == 0 ? "few" : "none").append(" || ").append(claim(random)).append(" && ");
            f.append(random.nextBoolean() ? "E" : "A").append("[ ").append(claim(random)).append(" U ");
        }
        return f.append("few || u && s").append(Check.times(40, "]")).toString();
    }

    private static String claim(Random random) {
        return CLAIMS[random.nextInt(CLAIMS.length)];
    }

    /** 29 specs with 12 tests each, most of which matter. */
    private static String manyTests() {
        StringBuilder s = new StringBuilder();
        for (int n = 0; n < 5; n++) {
            s.append("wire w").append(n).append(" = a & ").append(1 << n).append(";");
        }
        Random random = new Random(5);
        for (int n = 0; n < 29; n++) {
            s.append("spec s").append(n).append(" = { w").append(n % 5).append(" }");
            for (int k = 1; k < 12; k++) {
                s.append(k % 2 == 0 ? " || " : " && ").append(random.nextInt(4) == 0 ? "!" : "");
                s.append("{ w").append(random.nextInt(5)).append(" }");
            }
            s.append(";");
        }
        return s.toString();
    }

    private static String freeWires(int number) {
        StringBuilder s = new StringBuilder();
        for (int n = 0; n < number; n++) {
            s.append("wire v").append(n).append(" = ").append(n % 2 == 0 ? "~a" : "7").append(";");
        }
        return s.toString();
    }

    private static String manyWires(int number) {
        StringBuilder s = new StringBuilder();
        for (int n = 0; n < number; n++) {
            String sign = new String[] {" & ", " | ", " ^ "}[n % 3];
            s.append("wire w").append(n).append(" = ~").append(n == 0 ? "a" : "w" + (n - 1)).append(sign);
            s.append(n * 37 % 256).append(sign).append(n % 5 == 0 ? "i" : "a").append(";");
        }
        return s.toString();
    }

    private static String thirtySpecs() {
        StringBuilder s = new StringBuilder("spec s0 = { a == i };");
        String[] words = {"!", "AX ", "EX ", "AF ", "EF ", "AG ", "EG "};
        for (int n = 1; n < 30; n++) {
            s.append("spec s").append(n).append(" = ").append(words[n % 7]).append("(s").append(n - 1);
            s.append(n % 2 == 0 ? " && !s" : " || s").append(n / 2).append(");");
        }
        return s.toString();
    }

    private static String oneBitRegs() {
        StringBuilder s = new StringBuilder();
        for (int n = 0; n < 8; n++) {
            s.append("reg r").append(n).append(" : 1 = ").append(n % 2).append(";");
        }
        s.append("input x : 1; input y : 1; input z : 1; spec end = EF { r0 & r7 }; next r0 = r7 ^ x;");
        for (int n = 1; n < 8; n++) {
            s.append("next r").append(n).append(" = r").append(n - 1).append(n % 3 == 0 ? " | y" : " ^ z").append(";");
        }
        return s.append("spec loop = AG EF { r3 };").toString();
    }

    /** What an earlier text left behind must not show. */
    private static void rereading() {
        CircuitChecker x = new CircuitChecker();
        String[] texts = {
            HEAD + specs() + "spec f = s" + Check.times(1200, "&&s") + ";",
            "reg a : 1 = 0; spec s = !{ a };",
            HEAD + specs() + "spec f = t" + Check.times(1200, "||u") + ";",
            HEAD + "wire w = 1 + (2 * (3 - 4;",
            "reg a : 8 = 7; next a = a + 1; spec s = { a == 6 }; wire w = " + Check.times(40, "~") + "a;",
            "reg a : 8 = 7; spec s = { a == 6 }; spec t = EF s;",
            "reg a : 3 = 7; next a = " + Check.times(100, "a ^ ") + "1; spec s = AX !{ a };",
            "spec s = { 1 }; spec t = !s;",
            HEAD + specs() + "spec f = s" + Check.times(1200, "&&t") + ";"};
        for (int n = 0; n < texts.length; n++) {
            byte[] bytes = Check.bytes(texts[n]);
            new Comparison("text " + n + ": ", new Model(bytes), x, new Random(n)).read(bytes);
        }
    }
}
