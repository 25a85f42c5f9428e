import java.util.NoSuchElementException;

/** The document's paragraph on the limits and COSTS, sentence by sentence. */
public final class LimitsTest {
    private static final Class<NoSuchElementException> ELEMENT = NoSuchElementException.class;
    /** Ways to go one deeper: how it opens, the mark where it is deeper at first, and how it closes. */
    private static final String[][] UNARIES = {{"(@", ")"}, {"~@", ""}, {"!@", ""}, {"-@", ""}};
    private static final String[][] EXPRESSIONS = {{"1?@", ":1"}, {"1?@1:", ""}, {"0||(@", ")"}};
    private static final String[][] SINGLES = {
        {"(@", ")"}, {"!@", ""}, {"AX @", ""}, {"EX @", ""}, {"AF @", ""}, {"EF @", ""}, {"AG @", ""}, {"EG @", ""},
        {"A[@", " U t]"}, {"A[@t U ", "]"}, {"E[@", " U t]"}, {"E[@t U ", "]"}};
    private static final String[][] FORMULAS = {{"t->@", ""}, {"t||t&&(@", ")"}};
    private static final String ONE_SPEC = "spec t = {1}; ";

    public static void main(String[] args) {
        regBits();
        inputBits();
        names();
        specs();
        tokens();
        deepExpressions();
        deepFormulas();
        deepTests();
        deepSideBySide();
        untilDeeper();
        choiceDeeper();
        beforeArrow();
        costOfEach();
        mostCosts();
        costsFree();
        costsWhereTheyStand();
        costsOfFormulas();
        Check.finish();
    }

    private static void regBits() {
        Check.sentence("At most 8 bits of all regs");
        Check.dueSound("reg a : 8 = 255;");
        Check.dueSound("reg a : 3 = 7; reg b : 5 = 31;");
        Check.dueSound("reg a:1=0;reg b:1=0;reg c:1=0;reg d:1=0;reg e:1=0;reg f:1=0;reg g:1=0;reg h:1=0;");
        Check.dueFaultAtMark(3, "reg a:1=0;reg b:1=0;reg c:1=0;reg d:1=0;reg e:1=0;reg f:1=0;reg g:1=0;reg h:1=0;reg i:@1=0;");
        for (int bits = 1; bits < 8; bits++) {
            String one = "reg a : " + bits + " = 0; input i : 3; reg b : ";
            Check.due("all bits", Check.reader(one + (8 - bits) + " = 0;").count(2), 8);
            Check.dueFaultAtMark(3, one + "@" + (9 - bits) + " = 0;");
            Check.dueFaultAtMark(3, one + "@8 = 0;");
            Check.dueFaultAtMark(3, one + (8 - bits) + " = 0; reg c : @1 = 0;");
        }
        Check.dueFaultAtMark(3, "reg a : 8 = 0; reg b : @1 = 0;");
        Check.dueFaultAtMark(3, "reg a : 8 = 0; reg b : @0 = 0;");
    }

    private static void inputBits() {
        Check.sentence("3 of all inputs");
        Check.dueSound("input a : 3; reg b : 8 = 0;");
        Check.dueSound("input a : 1; input b : 1; input c : 1;");
        Check.dueSound("input a : 1; input b : 2;");
        Check.dueSound("input a : 2; reg r : 8 = 0; input b : 1;");
        Check.dueFaultAtMark(3, "input a : 1; input b : @3;");
        Check.dueFaultAtMark(3, "input a : 2; input b : @2;");
        Check.dueFaultAtMark(3, "input a : 3; input b : @1;");
        Check.dueFaultAtMark(3, "input a : 1; input b : 1; input c : @2;");
        Check.dueFaultAtMark(3, "input a : 1; input b : 1; input c : 1; input d : @1;");
    }

    private static void names() {
        Check.sentence("60 NAMES");
        CircuitChecker x = Check.reader(Texts.wires(60));
        Check.due("NAMES", x.count(1), 60);
        Check.due("the 60th", x.value(59, 0), 1);
        Check.dueThrow("the 61st", ELEMENT, () -> x.value(60, 0));
        for (String line : new String[] {"wire @v = 1;", "reg @v : 1 = 0;", "input @v : 1;", "spec @v = {1};"}) {
            Check.dueSound(Texts.wires(59) + line.replace("@", ""));
            Check.dueFaultAtMark(4, Texts.wires(60) + line);
        }
        Check.dueSound(Texts.wires(59) + "reg v : 1 = 0; next v = 1;");
        StringBuilder mixed = new StringBuilder("input i:1;input j:1;input k:1;" + Texts.specs(30) + Texts.wires(19));
        for (int n = 0; n < 8; n++) {
            mixed.append("reg r").append(n).append(":1=1;next r").append(n).append("=0;");
        }
        CircuitChecker y = Check.reader(mixed.toString());
        Check.due("NAMES of all kinds", y.count(1), 60);
        Check.due("the last one", y.value(59, 0), 1);
        Check.due("the first one", y.value(0, 4), 1);
        Check.due("the STATE after a STEP", y.tick(0), 0);
        Check.dueFaultAtMark(4, mixed + "wire @v = 1;");
        Check.dueFaultAtMark(4, mixed + "reg @v : 1 = 0;");
    }

    private static void specs() {
        Check.sentence("30 specs");
        CircuitChecker x = Check.reader(Texts.specs(30));
        Check.due("specs", x.count(0), 30);
        Check.due("the 30th", x.holds(29), true);
        Check.dueThrow("the 31st", ELEMENT, () -> x.holds(30));
        CircuitChecker y = new CircuitChecker();
        Check.due("read() of 30", Check.read(y, Texts.specs(30)), 30);
        Check.due("read() of 31", Check.read(y, Texts.specs(31)), -1);
        Check.dueFaultAtMark(4, Texts.specs(30) + "@spec v = {1};");
        Check.dueSound(Texts.specs(29) + "spec v = {1};");
        Check.dueSound(Texts.specs(30) + Texts.wires(30));
    }

    private static void tokens() {
        Check.sentence("4,000 WORDS, NUMBERS and signs");
        for (int number = 3998; number <= 4000; number++) {
            CircuitChecker x = Check.reader(Texts.tokens(number));
            Check.due("fault of " + number, x.fault(0), 0);
            Check.due("the long spec of " + number, x.holds(1), number % 2 == 0);
        }
        Check.dueSound(Texts.tokens(4000) + " # ;;\n \t# 1");
        Check.dueSound(Texts.tokens(4000).replace("spec t", "spec t# not counted\n"));
        Check.dueFaultAtMark(4, Texts.openTokens(3998) + "&&s@;");
        Check.dueFaultAtMark(4, Texts.openTokens(3999) + "&&@s;");
        Check.dueFaultAtMark(4, Texts.openTokens(4000) + "@&&s;");
        Check.dueSound(Texts.openTokens(3997) + "&&s;");
        Check.dueFaultAtMark(4, Texts.tokens(4000) + "@;");
        Check.dueFaultAtMark(4, Texts.openTokens(4000) + "@;");
        Check.dueFaultAtMark(1, Texts.openTokens(4000) + "@");
    }

    /** 40 deep is sound; what stands first at depth 41 is the FAULT. */
    private static void dueDepth(String before, String[] outer, String[] last, String inside, String behind) {
        dueDepth(40, before, outer, last, inside, behind);
    }

    private static void dueDepth(int most, String before, String[] outer, String[] last, String inside, String behind) {
        String open = outer[0].replace("@", "");
        String end = inside + last[1];
        Check.dueSound(before + Check.times(most - 1, open) + last[0].replace("@", "") + end
            + Check.times(most - 1, outer[1]) + behind);
        Check.dueFaultAtMark(4, before + Check.times(most, open) + last[0] + end + Check.times(most, outer[1]) + behind);
    }

    /** An operand of ~ or of AX can't be a ? or a -> by itself. */
    private static boolean takesUnaryOnly(String[] nest) {
        return nest[1].isEmpty() && nest[0].length() <= 4 && !nest[0].startsWith("t");
    }

    private static void deepExpressions() {
        Check.sentence("nested at most 40 deep (in ( ), { }, [ ], behind ? and its :, UNARY");
        dueDeepExpressions(40, "wire w = ", ";");
        dueDeepExpressions(40, "reg a : 1 = 0; next a = ", ";");
    }

    private static void dueDeepExpressions(int most, String before, String behind) {
        for (String[][] outers : new String[][][] {UNARIES, EXPRESSIONS}) {
            for (String[] outer : outers) {
                // 40 times - would pass the COSTS before it is too deep
                if (outer[0].equals("-@")) {
                    continue;
                }
                for (String[] last : UNARIES) {
                    dueDepth(most, before, outer, last, "1", behind);
                }
                for (String[] last : EXPRESSIONS) {
                    if (!takesUnaryOnly(outer)) {
                        dueDepth(most, before, outer, last, "1", behind);
                    }
                }
            }
        }
    }

    private static void deepFormulas() {
        Check.sentence("SINGLE's words and its !, ->");
        String before = ONE_SPEC + "spec v = ";
        for (String[][] outers : new String[][][] {SINGLES, FORMULAS}) {
            for (String[] outer : outers) {
                for (String[] last : SINGLES) {
                    dueDepth(before, outer, last, "t", ";");
                }
                for (String[] last : FORMULAS) {
                    if (!takesUnaryOnly(outer)) {
                        dueDepth(before, outer, last, "t", ";");
                    }
                }
                dueDepth(before, outer, new String[] {"{@", "}"}, "1", ";");
            }
        }
    }

    private static void deepTests() {
        Check.sentence("in ( ), { }, [ ]");
        dueDeepExpressions(39, "spec v = {", "};");
        dueDeepExpressions(29, ONE_SPEC + "spec v = " + Check.times(10, "t -> ") + "{", "};");
        dueDeepExpressions(20, "spec v = " + Check.times(19, "!") + "{", "};");
        dueDeepExpressions(1, "spec v = " + Check.times(38, "AX ") + "{", "};");
    }

    private static void deepSideBySide() {
        Check.sentence("nested at most 40 deep");
        String deep = Texts.nested(40, "(", "1", ")");
        Check.dueSound("wire w = " + deep + " + " + deep + " | " + deep + ";");
        Check.dueSound("wire w = " + deep + " ? " + "1 : 1; wire v = " + deep + ";");
        String claim = Texts.nested(40, "(", "t", ")");
        Check.dueSound(ONE_SPEC + "spec v = " + claim + " && " + claim + " || " + claim + ";");
        Check.dueSound("wire w = 1 || 1 && 1 | 1 ^ 1 & 1 == 1 < 1 << 1 + " + deep + ";");
        Check.dueFaultAtMark(4, "wire w = " + deep + " + " + Check.times(41, "(") + "@1" + Check.times(41, ")") + ";");
    }

    private static void untilDeeper() {
        Check.sentence("A [ f U g ] is one deeper for both");
        String thirtyNine = Texts.nested(39, "(", "t", ")");
        String forty = Texts.nested(40, "(", "t", ")");
        for (String word : new String[] {"A", "E"}) {
            String head = ONE_SPEC + "spec v = " + word + " [ ";
            Check.dueSound(head + thirtyNine + " U " + thirtyNine + " ];");
            Check.dueFault(head + forty + " U t ];", 4, head.length() + 40);
            Check.dueFault(head + "t U " + forty + " ];", 4, head.length() + 44);
            Check.dueSound(head + "t -> " + Texts.nested(38, "(", "t", ")") + " U t ];");
            Check.dueFault(head + "t -> " + thirtyNine + " U t ];", 4, head.length() + 44);
        }
        Check.dueFaultAtMark(1, ONE_SPEC + "spec v = " + Check.times(40, "!") + "A @( t U t );");
        Check.dueFaultAtMark(4, ONE_SPEC + "spec v = " + Check.times(40, "!") + "A [ @t U t ];");
        Check.dueFaultAtMark(4, ONE_SPEC + "spec v = " + Check.times(41, "!") + "@A [ t U t ];");
    }

    private static void choiceDeeper() {
        Check.sentence("so are both parts of a ?");
        String thirtyNine = Texts.nested(39, "(", "1", ")");
        String forty = Texts.nested(40, "(", "1", ")");
        Check.dueSound("wire w = " + forty + " ? " + thirtyNine + " : " + thirtyNine + ";");
        Check.dueFaultAtMark(4, "wire w = 1 ? " + forty.replace("1", "@1") + " : 1;");
        Check.dueFaultAtMark(4, "wire w = 1 ? 1 : " + forty.replace("1", "@1") + ";");
        Check.dueSound("wire w = (" + thirtyNine + " ? 1 : 1);");
        Check.dueFaultAtMark(4, "wire w = (" + forty.replace("1", "@1") + " ? 1 : 1);");
    }

    private static void beforeArrow() {
        Check.sentence("what stands before -> is none)");
        String thirtyNine = Texts.nested(39, "(", "t", ")");
        String forty = Texts.nested(40, "(", "t", ")");
        Check.dueSound(ONE_SPEC + "spec v = " + forty + " -> t;");
        Check.dueSound(ONE_SPEC + "spec v = " + forty + " -> " + thirtyNine + ";");
        Check.dueFaultAtMark(4, ONE_SPEC + "spec v = t -> " + forty.replace("t", "@t") + ";");
        Check.dueSound(ONE_SPEC + "spec v = t -> " + thirtyNine + " -> t;");
        Check.dueFaultAtMark(4, ONE_SPEC + "spec v = t -> " + forty.replace("t", "@t") + " -> t;");
        Check.dueSound(ONE_SPEC + "spec v = t -> t -> " + Texts.nested(38, "(", "t", ")") + ";");
        Check.dueFaultAtMark(4, ONE_SPEC + "spec v = t -> t -> " + thirtyNine.replace("t", "@t") + ";");
    }

    private static int costsOf(String text) {
        CircuitChecker x = Check.reader(text);
        return x.fault(0) == 0 ? x.count(4) : -1;
    }

    /** A LINE with one thing that costs. */
    private record Costly(String before, String sign, String behind, int cost) {
        String line() {
            return before + sign + behind;
        }

        String marked() {
            return before + "@" + sign + behind;
        }
    }

    private static final Costly[] COSTLY = {
        between("&", 24), between("|", 24), between("^", 24), before("!", 24), between("&&", 24), between("||", 24),
        between("==", 32), between("!=", 32), between("<", 96), between("<=", 96), between(">", 96), between(">=", 96),
        between("+", 96), between("-", 96), before("-", 96), between("<<", 128), between(">>", 128), between("*", 900),
        new Costly("wire v = 1 ", "?", " 1 : 1;", 40), new Costly("reg v : 1 = 0; ", "next", " v = 1;", 8),
        new Costly("spec v = ", "{", "1};", 8)};

    private static Costly between(String sign, int cost) {
        return new Costly("wire v = 1 ", sign, " 1;", cost);
    }

    private static Costly before(String sign, int cost) {
        return new Costly("wire v = ", sign, "1;", cost);
    }

    private static void costOfEach() {
        Check.sentence("COSTS, at most 3,000: a NUMBER, NAME, ( ) 0; ~ 0; & | ^ 24; ! && || 24; == != 32; < <= > >= + - (both) 96;"
            + " << >> 128; * 900; ? 40; next 8; { } 8");
        for (Costly c : COSTLY) {
            Check.due("COSTS of " + c.line(), costsOf(c.line()), c.cost());
        }
        Check.due("no COSTS", costsOf(""), 0);
        Check.due("free things", costsOf("reg a : 1 = 0; input b : 1; wire c = (~(a)); wire d = 7; wire e = ~~((b));"), 0);
        Check.due("all together", costsOf("reg a : 8 = 0; wire w = -(1 + a) * 2 - 3 << 4 >> 5 < 6 == 7 != 8 & 9 ^ 10 | !11"
            + " && 12 || 13 ? 14 : 15; next a = w; spec s = {w} && {a};"),
            96 + 96 + 900 + 96 + 128 + 128 + 96 + 32 + 32 + 24 + 24 + 24 + 24 + 24 + 24 + 40 + 8 + 8 + 8);
        Check.due("each is counted", costsOf("wire w = 1 ? 2 ? 3 : 4 : 5 ? 6 : 7;"), 120);
    }

    private static void mostCosts() {
        Check.sentence("COSTS, at most 3,000");
        for (Costly c : COSTLY) {
            Check.due("just 3,000 with " + c.line(), costsOf(Texts.costing(3000 - c.cost()) + c.line()), 3000);
            Check.dueFaultAtMark(4, Texts.costing(3004 - c.cost()) + c.marked());
            Check.dueFaultAtMark(4, Texts.costing(3008 - c.cost()) + c.marked());
            Check.dueFaultAtMark(4, Texts.costing(3000) + c.marked());
        }
        Check.due("125 signs", costsOf("wire w = 1" + Check.times(125, "&1") + ";"), 3000);
        Check.dueFaultAtMark(4, "wire w = 1" + Check.times(125, "&1") + "@&1;");
        Check.due("375 tests", costsOf("spec s = {1}" + Check.times(374, "&&{1}") + ";"), 3000);
        Check.dueFaultAtMark(4, "spec s = {1}" + Check.times(374, "&&{1}") + "&&@{1};");
        Check.dueFaultAtMark(4, "wire w = 1*1*1*1@*1;");
    }

    private static void costsFree() {
        Check.sentence("a NUMBER, NAME, ( ) 0; ~ 0");
        String full = Texts.costing(3000);
        Check.due("a full text", costsOf(full), 3000);
        Check.due("and free things", costsOf(full + "wire v = ((~~(filled))); reg r : 1 = 0; input i : 1; wire u = 7;"), 3000);
        Check.dueFaultAtMark(1, full + "wire v = @< 1;");
        Check.dueFaultAtMark(1, full + "wire v = 1;@;");
    }

    private static void costsWhereTheyStand() {
        Check.sentence("(each is counted where it stands, before anything behind it is looked at");
        String full = Texts.costing(3000);
        for (String behind : new String[] {"", "%", "?", ";", "1", "unknown", "999", "(", "1234567890"}) {
            for (Costly c : COSTLY) {
                Check.dueFaultAtMark(4, full + c.before() + "@" + c.sign() + " " + behind);
            }
        }
        Check.dueFaultAtMark(4, full + "wire v = 1 @+ 1 + 1 * 1;");
        Check.dueFaultAtMark(4, "wire w = 1 * (1 * (1 * (1 @* (1 + 1))));");
        Check.dueFaultAtMark(4, "wire w = (1 * 1) * 1 * (1 @* 1);");
        Check.dueFaultAtMark(2, full + "wire v = @unknown + 1;");
        Check.dueFaultAtMark(3, full + "wire v = @256 + 1;");
    }

    private static void costsOfFormulas() {
        Check.sentence("of FORMULAS only { costs)");
        Check.due("COSTS", costsOf("spec a = !({1} && AX {1} || A[{1} U {1}] -> EG {1}); spec b = !a && a || a -> EX EF AF AG a;"
            + "spec c = E[a U !b];"), 40);
        Check.due("within { }", costsOf("spec a = !{!1 && 1 || 1};"), 8 + 72);
        Check.due("at 3,000", costsOf(Texts.costing(2992) + "spec t = {1}; spec s = !t && t || t -> AX A[t U EG t];"), 3000);
    }
}
