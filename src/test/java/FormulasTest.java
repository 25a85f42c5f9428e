/** The document's paragraph on FORMULAS, sentence by sentence. */
public final class FormulasTest {
    /** 0 to 0 or 1; 1 to 2 or 3; 2 to 2; 3 to 0 or 3. */
    private static final String FORKED =
        "reg s : 2 = 0; input i : 1; next s = s == 0 ? i : s == 1 ? 2 + i : s == 2 ? 2 : i ? 3 : 0;"
            + "spec one = { s == 1 };";

    public static void main(String[] args) {
        tests();
        joined();
        someNext();
        allNext();
        untilOnSome();
        untilOnAll();
        comesOnSome();
        comesOnAll();
        always();
        alwaysOnSome();
        named();
        laterLines();
        bounds();
        joinedOnAllStates();
        fewerStates();
        Check.finish();
    }

    private static void dueStates(String formula, String want) {
        CircuitChecker x = Check.reader(FORKED + "spec f = " + formula + ";");
        StringBuilder got = new StringBuilder();
        for (int s = 0; x.fault(0) == 0 && s < 4; s++) {
            got.append(x.at(1, s) ? "" + s : "");
        }
        Check.due(formula, x.fault(0) == 0 ? got.toString() : "a fault", want);
        if (x.fault(0) == 0) {
            Check.due("states of " + formula, x.states(1), want.length());
            Check.due("holds of " + formula, x.holds(1), want.startsWith("0"));
        }
    }

    private static void tests() {
        Check.sentence("{ e }: e is true with all INPUTS");
        dueStates("{ 1 }", "0123");
        dueStates("{ 255 }", "0123");
        dueStates("{ 0 }", "");
        dueStates("{ i }", "");
        dueStates("{ !i }", "");
        dueStates("!{ i }", "0123");
        dueStates("!{ i } && !{ !i }", "0123");
        dueStates("{ i || !i }", "0123");
        dueStates("{ i || s }", "123");
        dueStates("{ i + s }", "123");
        dueStates("{ i + s - 2 }", "03");
        dueStates("{ s == 1 || i }", "1");
        String all = "input i : 3; reg a : 2 = 0; spec most = { i != 7 }; spec first = { i }; spec each = { i < 8 };"
            + "spec last = { a != 3 || i < 7 }; spec none = { a == 3 && i == 7 };";
        CircuitChecker x = Check.reader(all);
        Check.due("not with the last INPUTS", x.states(0), 0);
        Check.due("not with INPUTS 0", x.states(1), 0);
        Check.due("with each", x.states(2), 4);
        Check.due("not with one of them at one STATE", x.states(3), 3);
        Check.due("at that one", x.at(3, 3), false);
        Check.due("only with one of them", x.states(4), 0);
    }

    private static void joined() {
        Check.sentence("!, &&, ||, -> as they say");
        dueStates("one", "1");
        dueStates("!one", "023");
        dueStates("!!one", "1");
        dueStates("one && { s & 2 }", "");
        dueStates("one || { s & 2 }", "123");
        dueStates("one -> { 0 }", "023");
        dueStates("one -> one", "0123");
        dueStates("{ 0 } -> { 0 }", "0123");
        dueStates("{ 1 } -> { 0 }", "");
        dueStates("{ 1 } -> one", "1");
        dueStates("{ s == 3 } -> { 0 } -> { 0 }", "0123");
        dueStates("({ s == 3 } -> { 0 }) -> { 0 }", "3");
    }

    private static void someNext() {
        Check.sentence("EX f: f at some next STATE");
        dueStates("EX one", "0");
        dueStates("EX { s == 2 }", "12");
        dueStates("EX { s == 0 }", "03");
        dueStates("EX { s == 3 }", "13");
        dueStates("EX { 1 }", "0123");
        dueStates("EX { 0 }", "");
        dueStates("EX EX one", "03");
        dueStates("EX one && one", "");
    }

    private static void allNext() {
        Check.sentence("AX f: at all");
        dueStates("AX one", "");
        dueStates("AX { s == 2 }", "2");
        dueStates("AX { s & 2 }", "12");
        dueStates("AX { s < 2 }", "0");
        dueStates("AX !one", "123");
        dueStates("AX { 1 }", "0123");
        dueStates("AX { 0 }", "");
        dueStates("AX AX { s == 2 }", "2");
    }

    private static void untilOnSome() {
        Check.sentence("E [ f U g ]: on some PATH from it g at some STATE, f at all before that one");
        dueStates("E [ { 0 } U one ]", "1");
        dueStates("E [ { s == 0 } U one ]", "01");
        dueStates("E [ { s == 3 } U { s == 0 } ]", "03");
        dueStates("E [ { s != 0 } U { s == 0 } ]", "013");
        dueStates("E [ { s == 3 } U one ]", "1");
        dueStates("E [ { s == 3 || s == 0 } U one ]", "013");
        dueStates("E [ { 1 } U { 0 } ]", "");
        dueStates("E [ { 1 } U { 1 } ]", "0123");
        dueStates("E [ { 0 } U { 1 } ]", "0123");
        dueStates("E [ !one U { s == 2 } ]", "2");
        dueStates("E [ one U { s == 2 } ]", "12");
    }

    private static void untilOnAll() {
        Check.sentence("A [ f U g ]: on all PATHS");
        dueStates("A [ { 0 } U one ]", "1");
        dueStates("A [ { s == 0 } U one ]", "1");
        dueStates("A [ { s == 1 } U { s & 2 } ]", "123");
        dueStates("A [ { 0 } U { s & 2 } ]", "23");
        dueStates("A [ { 1 } U { s == 2 } ]", "2");
        dueStates("A [ one U { s == 2 || s == 3 } ]", "123");
        dueStates("A [ { 1 } U { 0 } ]", "");
        dueStates("A [ { 1 } U { 1 } ]", "0123");
        dueStates("A [ { 0 } U { 1 } ]", "0123");
        CircuitChecker x = Check.reader("reg a : 3 = 0; input i : 1; next a = a < 5 ? a + 1 + i : a;"
            + "spec f = A [ { a != 3 } U { a >= 5 } ]; spec g = E [ { a != 3 } U { a >= 5 } ];"
            + "spec h = A [ { a < 5 } U { a >= 5 } ];");
        Check.due("a PATH through 3 is one too many", x.states(0), 4);
        Check.due("but not at 4", x.at(0, 4), true);
        Check.due("some PATH is not", x.states(1), 7);
        Check.due("all PATHS come there", x.states(2), 8);
    }

    private static void comesOnSome() {
        Check.sentence("EF f: E [ true U f ]");
        dueStates("EF one", "013");
        dueStates("EF { s == 2 }", "0123");
        dueStates("EF { s == 0 }", "013");
        dueStates("EF { 0 }", "");
        dueStates("EF { 1 }", "0123");
        dueStates("EF EG one", "");
    }

    private static void comesOnAll() {
        Check.sentence("AF f: A [ true U f ]");
        dueStates("AF one", "1");
        dueStates("AF { s == 0 || s == 2 }", "02");
        dueStates("AF { s & 2 }", "123");
        dueStates("AF { s != 1 }", "0123");
        dueStates("AF { 0 }", "");
        dueStates("AF { 1 }", "0123");
    }

    private static void always() {
        Check.sentence("AG f: not EF not f");
        dueStates("AG { s == 2 }", "2");
        dueStates("AG { s != 2 }", "");
        dueStates("AG { s < 4 }", "0123");
        dueStates("AG { s != 1 }", "2");
        dueStates("AG EF { s == 2 }", "0123");
        dueStates("AG EF one", "");
        dueStates("AG { 1 }", "0123");
        dueStates("AG { 0 }", "");
    }

    private static void alwaysOnSome() {
        Check.sentence("EG f: not AF not f");
        dueStates("EG { s != 2 }", "013");
        dueStates("EG { s == 0 }", "0");
        dueStates("EG one", "");
        dueStates("EG { s == 3 }", "3");
        dueStates("EG { s == 1 || s == 3 }", "13");
        dueStates("EG { s == 2 }", "2");
        dueStates("EG { 1 }", "0123");
        dueStates("EG { 0 }", "");
    }

    private static void named() {
        Check.sentence("a NAME of a spec.");
        CircuitChecker x = Check.reader("reg a : 2 = 0; next a = a + 1; spec p = { a == 3 }; spec q = AX p;"
            + "spec r = q || p; spec t = EX r;");
        int[] states = {1, 1, 2, 2};
        for (int s = 0; s < states.length; s++) {
            Check.due("states(" + s + ")", x.states(s), states[s]);
        }
        Check.due("at(3, 1)", x.at(3, 1), true);
        Check.due("at(3, 2)", x.at(3, 2), true);
    }

    private static void laterLines() {
        Check.sentence("From a STATE, with INPUTS");
        CircuitChecker x = Check.reader("reg a : 2 = 0; spec s = { a }; reg b : 2 = 2; spec t = AX { b == 0 }; next b = 4;");
        Check.due("a reg that is declared later makes more STATES", x.states(0), 12);
        Check.due("a next that comes later counts", x.states(1), 16);
        CircuitChecker y = Check.reader("reg a : 1 = 0; spec s = EX { a }; input i : 1; next a = i;");
        Check.due("an input that is declared later counts", y.states(0), 2);
    }

    private static void bounds() {
        Check.sentence("FORMULAS at a STATE");
        CircuitChecker x = Check.reader("reg a : 8 = 0; next a = a + 1; spec last = { a == 255 }; spec first = { a == 0 };"
            + "spec must = AF last; spec back = AF first; spec before = EX last; spec each = AG EF first;"
            + "spec from = E [ { a >= 64 } U first ]; spec gone = A [ { a < 192 } U { a == 192 } ]; spec stay = EG { a };");
        int[] states = {1, 1, 256, 256, 1, 256, 193, 193, 0};
        for (int s = 0; s < states.length; s++) {
            Check.due("states(" + s + ")", x.states(s), states[s]);
        }
        for (int edge = 63; edge < 256; edge += 64) {
            Check.due("from at " + edge, x.at(6, edge), edge != 63);
            Check.due("gone at " + edge, x.at(7, edge), edge < 192);
        }
        Check.due("before at 254", x.at(4, 254), true);
        Check.due("before at 255", x.at(4, 255), false);
    }

    private static void joinedOnAllStates() {
        Check.sentence("!, &&, ||, -> as they say");
        CircuitChecker x = Check.reader("reg a : 8 = 0; spec p = { a & 65 };"
            + "spec q = { a >= 100 && a < 200 }; spec both = p && q; spec either = p || q; spec so = p -> q; spec not = !p;"
            + "spec three = p && q || !q;");
        int[] edges = {0, 1, 62, 63, 64, 65, 99, 100, 126, 127, 128, 129, 190, 191, 192, 193, 199, 200, 254, 255};
        for (int state : edges) {
            boolean p = (state & 65) != 0;
            boolean q = state >= 100 && state < 200;
            boolean[] due = {p, q, p && q, p || q, !p || q, !p, p && q || !q};
            for (int s = 0; s < due.length; s++) {
                Check.due("at(" + s + ", " + state + ")", x.at(s, state), due[s]);
            }
        }
        Check.due("both and either", x.states(2) + x.states(3), x.states(0) + x.states(1));
        Check.due("of all", x.states(0) + x.states(5), 256);
    }

    private static void fewerStates() {
        Check.sentence("At how many STATES of all it is so.");
        CircuitChecker x = Check.reader("reg a : 8 = 0; spec s = {1}; spec t = {0}; spec u = {a};");
        Check.due("of 256", x.states(0), 256);
        Check.due("a text with two STATES", Check.read(x, "reg a : 1 = 0; spec s = {1}; spec t = !{0}; spec u = {0} -> {0};"), 3);
        for (int s = 0; s < 3; s++) {
            Check.due("states(" + s + ")", x.states(s), 2);
        }
        Check.due("a text with one STATE", Check.read(x, "spec s = {1}; spec t = !{0}; spec u = AG {1};"), 3);
        for (int s = 0; s < 3; s++) {
            Check.due("states(" + s + ") of one", x.states(s), 1);
        }
    }
}
