/** The document's paragraphs on VALUES and on STATES, sentence by sentence. */
public final class ValuesTest {
    /** NUMBERS at which something turns over. */
    private static final int[] EDGES = {0, 1, 2, 3, 6, 7, 8, 9, 15, 16, 17, 85, 127, 128, 129, 170, 247, 248, 254, 255};

    public static void main(String[] args) {
        modulo();
        bitsOfRegs();
        minus();
        turned();
        not();
        shifts();
        bitwise();
        comparisons();
        truths();
        chosen();
        numbersOfStates();
        firstState();
        numbersOfInputs();
        stepsModulo();
        nextsAtOnce();
        withoutNext();
        paths();
        Check.finish();
    }

    private static void dueValue(String expression, int want) {
        CircuitChecker x = Check.reader("wire w = " + expression + ";");
        Check.due(expression, x.fault(0) == 0 ? x.value(0, 0) : -1, want);
    }

    /** A sign between all VALUES and those at the edges, on both sides; an object is used for less than 512 calls. */
    private static void dueOnAll(String sign) {
        for (int b : EDGES) {
            for (int from = 0; from < 256; from += 128) {
                CircuitChecker x = Check.reader("reg a : 8 = 0; wire w = a " + sign + " " + b + ";");
                CircuitChecker y = Check.reader("reg a : 8 = 0; wire w = " + b + " " + sign + " a;");
                for (int a = from; a < from + 128; a++) {
                    x.go(a);
                    y.go(a);
                    Check.due(a + sign + b, x.value(1, 0), Model.apply(sign, a, b));
                    Check.due(b + sign + a, y.value(1, 0), Model.apply(sign, b, a));
                }
            }
        }
    }

    private static void modulo() {
        Check.sentence("VALUES: 0 .. 255, all results modulo 256");
        dueValue("255 + 0", 255);
        dueValue("255 + 1", 0);
        dueValue("254 + 1", 255);
        dueValue("255 + 255", 254);
        dueValue("128 + 128", 0);
        dueValue("0 - 1", 255);
        dueValue("0 - 255", 1);
        dueValue("1 - 1", 0);
        dueValue("5 - 6 + 1", 0);
        dueValue("15 * 17", 255);
        dueValue("16 * 16", 0);
        dueValue("16 * 17", 16);
        dueValue("255 * 255", 1);
        dueValue("255 * 2", 254);
        dueValue("200 * 0", 0);
        dueValue("255 << 1", 254);
        dueValue("(255 + 1) >> 1", 0);
        dueValue("(128 << 1) >> 1", 0);
        dueValue("(0 - 1) >> 1", 127);
        dueValue("-1 >> 1", 127);
        dueValue("~0 + 1", 0);
        dueValue("(250 + 10) == 4", 1);
        dueValue("(250 + 10) > 250", 0);
        dueValue("(1 - 2) > 254", 1);
        dueValue("(128 + 128) ? 1 : 2", 2);
        dueValue("!(255 + 1)", 1);
        dueOnAll("+");
        dueOnAll("-");
        dueOnAll("*");
    }

    private static void bitsOfRegs() {
        Check.sentence("regs and inputs have those of their bits");
        for (int bits = 1; bits <= 8; bits++) {
            CircuitChecker x = Check.reader("reg a : " + bits + " = 0; wire w = a + 1; wire v = ~a; wire u = a - 1;");
            int most = (1 << bits) - 1;
            x.go(most);
            Check.due("most of " + bits + " bits", x.value(0, 0), most);
            Check.due("a wire has a VALUE's bits", x.value(1, 0), (most + 1) & 255);
            Check.due("all its bits are turned", x.value(2, 0), 255 - most);
            x.go(0);
            Check.due("least of " + bits + " bits", x.value(0, 0), 0);
            Check.due("a wire below 0", x.value(3, 0), 255);
        }
        CircuitChecker y = Check.reader("input i : 1; input j : 2; wire w = i - j; wire v = ~i; wire u = j << 7;");
        Check.due("i", y.value(0, 7), 1);
        Check.due("j", y.value(1, 7), 3);
        Check.due("i - j", y.value(2, 7), 254);
        Check.due("~i", y.value(3, 7), 254);
        Check.due("j << 7", y.value(4, 7), 128);
    }

    private static void minus() {
        Check.sentence("- before: 0 less it");
        for (int a : EDGES) {
            dueValue("-" + a, (256 - a) & 255);
        }
        dueValue("-0", 0);
        dueValue("-128", 128);
        dueValue("-255", 1);
    }

    private static void turned() {
        Check.sentence("~: all bits turned");
        for (int a : EDGES) {
            dueValue("~" + a, 255 - a);
        }
    }

    private static void not() {
        Check.sentence("!: 1 of 0, else 0");
        for (int a : EDGES) {
            dueValue("!" + a, a == 0 ? 1 : 0);
        }
        dueValue("!0", 1);
        dueValue("!!128", 1);
    }

    private static void shifts() {
        Check.sentence("a << b, a >> b: 0 if b is 8 or more");
        for (int by = 0; by <= 9; by++) {
            dueValue("255 << " + by, (255 << by) & 255);
            dueValue("255 >> " + by, 255 >> by);
        }
        for (int by : new int[] {10, 15, 16, 17, 31, 32, 33, 63, 64, 65, 127, 128, 129, 136, 192, 248, 254, 255}) {
            dueValue("255 << " + by, 0);
            dueValue("255 >> " + by, 0);
        }
        dueValue("1 << 7", 128);
        dueValue("128 >> 7", 1);
        dueValue("129 << 1", 2);
        dueValue("129 >> 1", 64);
        dueOnAll("<<");
        dueOnAll(">>");
    }

    private static void bitwise() {
        Check.sentence("all results modulo 256");
        for (String sign : new String[] {"&", "|", "^"}) {
            dueOnAll(sign);
        }
    }

    private static void comparisons() {
        Check.sentence("comparisons, && and ||: 1 or 0");
        dueValue("127 < 128", 1);
        dueValue("128 < 127", 0);
        dueValue("255 > 0", 1);
        dueValue("0 > 255", 0);
        dueValue("0 < 0", 0);
        dueValue("0 <= 0", 1);
        dueValue("255 >= 255", 1);
        dueValue("255 > 255", 0);
        dueValue("255 == 255", 1);
        dueValue("255 != 255", 0);
        for (String sign : new String[] {"==", "!=", "<", "<=", ">", ">="}) {
            dueOnAll(sign);
        }
    }

    private static void truths() {
        Check.sentence("(a VALUE is true if it is not 0)");
        dueValue("4 && 2", 1);
        dueValue("128 && 255", 1);
        dueValue("0 && 255", 0);
        dueValue("255 && 0", 0);
        dueValue("0 || 128", 1);
        dueValue("2 || 0", 1);
        dueValue("0 || 0", 0);
        dueOnAll("&&");
        dueOnAll("||");
        for (int value : EDGES) {
            CircuitChecker x = Check.reader("spec s = { " + value + " };");
            Check.due("{ " + value + " }", x.holds(0), value != 0);
        }
    }

    private static void chosen() {
        Check.sentence("a ? b : c is b if a is true, else c");
        for (int a : EDGES) {
            dueValue(a + " ? 7 : 9", a == 0 ? 9 : 7);
            dueValue("1 ? " + a + " : 77", a);
            dueValue("0 ? 77 : " + a, a);
        }
        CircuitChecker x = Check.reader("input i : 3; wire w = i & 5 ? i + 100 : i - 100;");
        for (int i = 0; i < 8; i++) {
            Check.due("i = " + i, x.value(1, i), (i & 5) != 0 ? i + 100 : i + 156);
        }
    }

    private static void numbersOfStates() {
        Check.sentence("its number: their bits one behind the other, of the first reg the highest");
        CircuitChecker x = Check.reader(
            "reg a : 3 = 0; wire w = a; reg b : 1 = 0; spec s = { b }; reg c : 2 = 0; input i : 2; reg d : 2 = 0;");
        int[] regs = {0, 2, 4, 6};
        int[] behind = {5, 4, 2, 0};
        int[] most = {7, 1, 3, 3};
        for (int state = 0; state < 256; state += 5) {
            x.go(state);
            for (int r = 0; r < regs.length; r++) {
                Check.due("reg " + r + " of STATE " + state, x.value(regs[r], 0), state >> behind[r] & most[r]);
            }
        }
        CircuitChecker none = Check.reader("input i : 2; wire w = i; spec s = { w == i };");
        Check.due("without regs: the STATE", none.count(6), 0);
        Check.due("without regs: STATES", none.states(0), 1);
        Check.due("without regs: a STEP", none.tick(3), 0);
    }

    private static void firstState() {
        Check.sentence("The FIRST one has those of the TEXT.");
        Check.due("one reg", Check.reader("reg a : 4 = 9;").count(6), 9);
        Check.due("two regs", Check.reader("reg a : 4 = 9; reg b : 4 = 6;").count(6), 9 * 16 + 6);
        Check.due("the last STATE", Check.reader("reg a : 7 = 127; reg b : 1 = 1;").count(6), 255);
        Check.due("the 0th STATE", Check.reader("reg a : 7 = 0; reg b : 1 = 0;").count(6), 0);
        Check.due("eight regs", Check.reader("reg a:1=1;reg b:1=0;reg c:1=1;reg d:1=1;reg e:1=0;reg f:1=0;reg g:1=1;"
            + "reg h:1=0;").count(6), 0b10110010);
        Check.due("no regs", Check.reader("wire w = 1;").count(6), 0);
    }

    private static void numbersOfInputs() {
        Check.sentence("with INPUTS (a VALUE for each input, numbered likewise)");
        CircuitChecker x = Check.reader("input i : 1; reg a : 8 = 0; input j : 2; next a = i * 16 + j;");
        for (int inputs = 0; inputs < 8; inputs++) {
            Check.due("i of " + inputs, x.value(0, inputs), inputs >> 2);
            Check.due("j of " + inputs, x.value(2, inputs), inputs & 3);
            Check.due("a STEP with " + inputs, x.tick(inputs), (inputs >> 2) * 16 + (inputs & 3));
        }
        CircuitChecker y = Check.reader("input i : 1; input j : 1; input k : 1; wire w = i * 4 + j * 2 + k;");
        for (int inputs = 0; inputs < 8; inputs++) {
            Check.due("three inputs, " + inputs, y.value(3, inputs), inputs);
        }
    }

    private static void stepsModulo() {
        Check.sentence("each reg has what its next was (modulo 2 to the power of its bits)");
        for (int bits = 1; bits <= 8; bits++) {
            int most = (1 << bits) - 1;
            CircuitChecker up = Check.reader("reg a : " + bits + " = " + most + "; next a = a + 1;");
            Check.due("beyond " + most, up.tick(0), 0);
            CircuitChecker down = Check.reader("reg a : " + bits + " = 0; next a = a - 1;");
            Check.due("below 0 of " + bits + " bits", down.tick(0), most);
            CircuitChecker much = Check.reader("reg a : " + bits + " = 0; next a = 173;");
            Check.due("173 in " + bits + " bits", much.tick(0), 173 & most);
        }
        CircuitChecker x = Check.reader("reg a : 2 = 0; reg b : 2 = 2; reg c : 2 = 1; next b = 255;");
        Check.due("the regs beside it stay", x.tick(0), 0b001101);
        CircuitChecker y = Check.reader("reg a : 2 = 3; reg b : 2 = 2; reg c : 2 = 3; next b = 252;");
        Check.due("the regs beside it stay", y.tick(0), 0b110011);
    }

    private static void nextsAtOnce() {
        Check.sentence("what its next was");
        CircuitChecker x = Check.reader("reg a : 3 = 1; reg b : 3 = 6; next a = b; next b = a;");
        Check.due("both change places", x.tick(0), 6 << 3 | 1);
        Check.due("and back", x.tick(0), 1 << 3 | 6);
        CircuitChecker y = Check.reader("reg a : 2 = 0; wire w = a + 1; next a = w; reg b : 2 = 0; next b = w;");
        Check.due("a wire has what it was before the STEP", y.tick(0), 1 << 2 | 1);
        Check.due("and once more", y.tick(0), 2 << 2 | 2);
    }

    private static void withoutNext() {
        Check.sentence("or, without one, what it had");
        CircuitChecker x = Check.reader("reg a : 3 = 5; reg b : 1 = 0; reg c : 2 = 2; next b = !b;");
        Check.due("only b changes", x.tick(0), 0b101110);
        Check.due("and back", x.tick(0), 0b101010);
        CircuitChecker y = Check.reader("reg a : 8 = 255; input i : 3;");
        Check.due("no next at all", y.tick(7), 255);
        Check.due("STATES that can be come to", y.reachable(), 1);
        CircuitChecker z = Check.reader("reg a : 1 = 1;");
        Check.due("a next of an earlier text is gone", Check.read(z, "reg a : 1 = 1; reg b : 1 = 0; next b = 1;"), 0);
        Check.due("a STEP", z.tick(0), 3);
        Check.due("the first text again", Check.read(z, "reg a : 1 = 0; reg b : 1 = 0;"), 0);
        Check.due("a STEP", z.tick(0), 0);
    }

    private static void paths() {
        Check.sentence("A PATH: STATES without end, from each to the next one by a STEP with some INPUTS.");
        CircuitChecker x = Check.reader("reg a : 2 = 0; input i : 1; next a = a == 0 && i ? 1 : a;"
            + "spec stay = EG { a == 0 }; spec leave = EG { a == 1 }; spec can = EF { a == 1 }; spec must = AF { a == 1 };"
            + "spec ever = AG { a == 2 };");
        Check.due("a PATH may stay for ever", x.holds(0), true);
        Check.due("one STATE's PATH is itself without end", x.at(1, 1), true);
        Check.due("INPUTS may be chosen at each STEP", x.holds(2), true);
        Check.due("no PATH has to leave", x.holds(3), false);
        Check.due("no STATE is without a STEP", x.states(4), 1);
    }
}
