import java.util.NoSuchElementException;

/** The promises one by one: ordinary inputs, edges and wrong inputs. */
public final class PromisesTest {
    private static final Class<IllegalStateException> STATE = IllegalStateException.class;
    private static final Class<IllegalArgumentException> ARGUMENT = IllegalArgumentException.class;
    private static final Class<NoSuchElementException> ELEMENT = NoSuchElementException.class;
    /** Counts up while go is 1; a has two bits. */
    private static final String COUNTER = "reg a : 2 = 1; input go : 1; wire up = a + go; next a = up;"
        + "spec three = { a == 3 }; spec can = EF three; spec must = AF three; spec never = { a > 3 };";

    public static void main(String[] args) {
        newObject();
        feed();
        end();
        read();
        fault();
        holds();
        states();
        at();
        reachable();
        trace();
        step();
        tick();
        go();
        value();
        count();
        Check.finish();
    }

    private static void dueEmptyCircuit(String when, CircuitChecker x) {
        int[] counts = {0, 0, 0, 0, 0, 0, 0, 0, -1};
        for (int what = 0; what < counts.length; what++) {
            Check.due(when + "count(" + what + ")", x.count(what), counts[what]);
        }
        Check.due(when + "reachable()", x.reachable(), 1);
        Check.dueThrow(when + "holds(0)", ELEMENT, () -> x.holds(0));
        Check.dueThrow(when + "states(0)", ELEMENT, () -> x.states(0));
        Check.dueThrow(when + "at(0, 0)", ELEMENT, () -> x.at(0, 0));
        Check.dueThrow(when + "trace(0)", ELEMENT, () -> x.trace(0));
        Check.dueThrow(when + "step(0, 0)", ELEMENT, () -> x.step(0, 0));
        Check.dueThrow(when + "step(0, 2)", ELEMENT, () -> x.step(0, 2));
        Check.dueThrow(when + "value(0, 0)", ELEMENT, () -> x.value(0, 0));
        Check.due(when + "tick(0)", x.tick(0), 0);
        Check.dueThrow(when + "tick(1)", ARGUMENT, () -> x.tick(1));
        Check.due(when + "go(0)", x.go(0), 0);
        Check.dueThrow(when + "go(1)", ARGUMENT, () -> x.go(1));
    }

    private static void newObject() {
        CircuitChecker x = new CircuitChecker();
        Check.due("new: fault(0)", x.fault(0), 0);
        Check.due("new: fault(1)", x.fault(1), 0);
        dueEmptyCircuit("new: ", x);
        Check.due("new: read()", x.read(), 0);
        dueEmptyCircuit("new and read: ", x);
    }

    private static void feed() {
        CircuitChecker x = new CircuitChecker();
        int blanks = 0x20202020;
        Check.due("feed: the first", x.feed(0x72656720, 0x613a313d, 0x313b2020, blanks, blanks), 20);
        Check.due("feed: the second", x.feed(blanks, blanks, blanks, blanks, 0x20202080), 40);
        Check.due("feed: count(5)", x.count(5), 40);
        Check.due("feed: read()", x.read(), -1);
        Check.due("feed: the lowest byte of the last number comes last", x.fault(1), 39);
        for (int n = 1; n <= 3276; n++) {
            Check.due("feed: its length", x.feed(blanks, blanks, blanks, blanks, blanks), 20 * n);
        }
        Check.dueThrow("feed: no room for 20", STATE, () -> x.feed(0, 0, 0, 0, 0));
        Check.due("feed: what throws changes nothing", x.count(5), 65520);
        Check.due("feed: end(65516)", x.end(65516), 65516);
        Check.due("feed: just room for 20", x.feed(blanks, blanks, blanks, blanks, blanks), 65536);
        Check.dueThrow("feed: full", STATE, () -> x.feed(0, 0, 0, 0, 0));
        x.end(65517);
        Check.dueThrow("feed: room for 19", STATE, () -> x.feed(0, 0, 0, 0, 0));
        Check.due("feed: what throws changes nothing", x.count(5), 65517);
        Check.due("feed: a full TAPE is read", x.read(), 0);
    }

    private static void end() {
        CircuitChecker x = new CircuitChecker();
        Check.due("end: of nothing", x.end(0), 0);
        Check.dueThrow("end: 1 of nothing", ARGUMENT, () -> x.end(1));
        Check.dueThrow("end: -1", ARGUMENT, () -> x.end(-1));
        x.feed(0x7265673b, 0, 0, 0, 0);
        Check.dueThrow("end: 21 of 20", ARGUMENT, () -> x.end(21));
        Check.dueThrow("end: -1 of 20", ARGUMENT, () -> x.end(-1));
        Check.dueThrow("end: far below", ARGUMENT, () -> x.end(Integer.MIN_VALUE));
        Check.due("end: all", x.end(20), 20);
        Check.due("end: what throws changes nothing", x.count(5), 20);
        Check.due("end: 3", x.end(3), 3);
        Check.due("end: count(5)", x.count(5), 3);
        Check.dueThrow("end: what is gone is gone", ARGUMENT, () -> x.end(4));
        Check.due("end: feed goes on behind", x.feed(0x20616161, 0x3a313d30, 0x3b202020, 0x20202020, 0x20202020), 23);
        Check.due("end: read()", x.read(), 0);
        Check.due("end: one reg", x.count(2), 1);
    }

    private static void read() {
        CircuitChecker x = new CircuitChecker();
        Check.due("read: specs", Check.read(x, COUNTER), 4);
        Check.due("read: the TAPE is empty", x.count(5), 0);
        Check.due("read: the FIRST STATE", x.count(6), 1);
        x.go(3);
        x.trace(0);
        Check.due("read: a fault", Check.read(x, COUNTER + "spec"), -1);
        dueEmptyCircuit("read with a fault: ", x);
        Check.due("read: again", Check.read(x, COUNTER), 4);
        x.go(3);
        x.trace(0);
        Check.due("read: another", Check.read(x, "reg a : 3 = 5; reg b : 1 = 1; next a = b ? 1 : a;"), 0);
        Check.due("read: its FIRST STATE", x.count(6), 11);
        Check.due("read: no TRACE", x.count(7), 0);
        Check.dueThrow("read: no TRACE", ELEMENT, () -> x.step(0, 0));
        Check.due("read: its STEP", x.tick(0), 3);
        Check.due("read: its NAMES", x.count(1), 2);
        Check.due("read: nothing", x.read(), 0);
        dueEmptyCircuit("read of nothing: ", x);
        blanks();
        grammar();
        signs();
        tightness();
    }

    private static void blanks() {
        Check.dueSound("");
        Check.dueSound(" \t\r\n");
        Check.dueSound("# only a remark");
        Check.dueSound("#\u0000\u00ff@\n#");
        Check.dueSound("reg#x\na#;\n:\t1\r=\n0;#");
        Check.dueSound("reg a:1=0;#\nnext a=1;");
        Check.dueFault("reg a:1=0 # ;", 1, 13);
        Check.dueFault("reg a:1=0;\u000b", 1, 10);
        Check.dueFault("reg a:1=0;\u0000", 1, 10);
        Check.dueFault("reg a:1=0;\f", 1, 10);
        Check.dueFault("reg a:1=0;\u00a0", 1, 10);
        Check.dueFault("# remark\r;\n ;", 1, 12);
    }

    private static void grammar() {
        Check.dueSound("reg a:8=255;input b:3;wire c=a+b;next a=c;spec d={c};spec e=d;");
        Check.dueSound("wire a = 1; wire b = a; reg r : 1 = 0; spec s = { b } ; next r = a; input i : 1;");
        Check.dueSound("reg A1:1=0;reg E_:1=0;reg U2:1=0;reg ax:1=0;reg Reg:1=0;reg AXE:1=0;reg nexts:1=0;reg x_9:1=0;");
        Check.dueSound("reg a:1=0;spec s=AG!{a}&&EX AX EF AF EG!!{!a}->A[{a}U{!a}]||E[{1}->{0}U({a})];");
        Check.dueSound("reg azAZ09_:1=0;wire ZAza_90=azAZ09_;wire z=ZAza_90;wire Z=z;wire Zz=Z;wire zZ=Zz;");
        Check.dueSound("wire a=1?2:3?4:5;wire b=(a?1:2)?a?1:2:3;");
        String[] words = {"reg", "input", "wire", "next", "spec", "A", "E", "U", "AX", "EX", "AF", "EF", "AG", "EG"};
        for (String word : words) {
            Check.dueFaultAtMark(1, "reg @" + word + " : 1 = 0;");
            Check.dueFaultAtMark(1, "wire w = @" + word + ";");
            Check.dueFaultAtMark(1, "reg a : 1 = 0; next @" + word + " = 0;");
        }
        Check.dueFaultAtMark(1, "@a");
        Check.dueFaultAtMark(1, "@;");
        Check.dueFaultAtMark(1, "@5");
        Check.dueFaultAtMark(1, "reg a : 1 = 0;@;");
        Check.dueFaultAtMark(1, "reg a @= 1;");
        Check.dueFaultAtMark(1, "reg a : @b = 0;");
        Check.dueFaultAtMark(1, "reg a : 1 @;");
        Check.dueFaultAtMark(1, "reg a : 1 = @-1;");
        Check.dueFaultAtMark(1, "reg a : 1 = 0 @:");
        Check.dueFaultAtMark(1, "input a : 1 @= 0;");
        Check.dueFaultAtMark(1, "wire a @: 1;");
        Check.dueFaultAtMark(1, "wire a = @;");
        Check.dueFaultAtMark(1, "wire a = 1 @2;");
        Check.dueFaultAtMark(1, "wire a = 1 @-> 2;");
        Check.dueFaultAtMark(1, "wire a = 1 + @* 2;");
        Check.dueFaultAtMark(1, "wire a = 1 @~ 2;");
        Check.dueFaultAtMark(1, "wire a = (1@;");
        Check.dueFaultAtMark(1, "wire a = 1@);");
        Check.dueFaultAtMark(1, "wire a = 1 ? 2 @;");
        Check.dueFaultAtMark(1, "wire a = @{1};");
        Check.dueFaultAtMark(1, "wire a = 1@");
        Check.dueFaultAtMark(1, "wire a = 1    # left open@");
        Check.dueFaultAtMark(1, "spec a = @1;");
        Check.dueFaultAtMark(1, "spec a = {1@;");
        Check.dueFaultAtMark(1, "spec a = {@};");
        Check.dueFaultAtMark(1, "spec a = {1} @& {1};");
        Check.dueFaultAtMark(1, "spec a = A @{1};");
        Check.dueFaultAtMark(1, "spec a = A [ {1} @];");
        Check.dueFaultAtMark(1, "spec a = A [ {1} @V {1} ];");
        Check.dueFaultAtMark(1, "spec a = E [ {1} U {1} @);");
        Check.dueFaultAtMark(1, "spec a = AX @;");
        Check.dueFaultAtMark(1, "spec a = @U;");
        Check.dueFaultAtMark(1, "spec a = {1} -> @-> {1};");
        Check.dueFaultAtMark(1, "spec a = @-{1};");
        Check.dueFaultAtMark(1, "next @1 = 1;");
    }

    private static void signs() {
        Check.dueFaultAtMark(1, "wire x = 12@ab;");
        Check.dueFaultAtMark(1, "wire x = 1 <<@= 2;");
        Check.dueFaultAtMark(1, "wire x = 1 ==@= 2;");
        Check.dueFaultAtMark(1, "wire x = 1 <@>= 2;");
        Check.dueFaultAtMark(1, "wire x = 1 &&@&2;");
        Check.dueFaultAtMark(1, "wire x = 1 ||@|2;");
        Check.dueFaultAtMark(1, "wire x = 1@->2;");
        Check.dueFaultAtMark(1, "wire x = 1-@->2;");
        Check.dueFaultAtMark(1, "wire x = @_a;");
        Check.dueFaultAtMark(1, "wire x = 1 @% 2;");
        Check.dueFaultAtMark(1, "wire x = 1 @/ 2;");
        Check.dueFaultAtMark(1, "wire x = @\"1\";");
        Check.dueFaultAtMark(1, "wire x = @\u00e9;");
        Check.dueSound("wire x = 1 - -1;wire y=1--1;wire z=1<-1;wire v=!!1;wire w=1!=!1;");
        String name = Check.times(31, "q");
        Check.dueSound("wire " + name + " = 1; wire y = " + name + ";");
        Check.dueFaultAtMark(1, "wire @" + name + "1 = 1;");
        Check.dueFaultAtMark(1, "wire x = @" + name + "_;");
        Check.dueSound("wire x = 000000255;");
        Check.dueFaultAtMark(1, "wire x = @0000000255;");
        Check.dueFaultAtMark(1, "wire x = @1234567890123456789012345678901234567890;");
        Check.dueFaultAtMark(1, "wire @9 = 1;");
    }

    private static void dueWire(String expression, int want) {
        CircuitChecker x = Check.reader("input a : 1; wire w = " + expression + ";");
        Check.due("fault of " + expression, x.fault(0), 0);
        Check.due(expression, x.count(1) == 2 ? x.value(1, 0) : -1, want);
    }

    private static void tightness() {
        dueWire("1 || 0 && 0", 1);
        dueWire("2 && 1 | 4", 1);
        dueWire("0 && 4 | 2", 0);
        dueWire("4 | 2 && 0", 0);
        dueWire("1 | 3 ^ 2", 1);
        dueWire("6 ^ 5 & 3", 7);
        dueWire("7 & 2 == 2", 1);
        dueWire("2 == 1 < 2", 0);
        dueWire("1 < 2 == 1", 1);
        dueWire("1 < 1 << 1", 1);
        dueWire("1 << 1 + 1", 4);
        dueWire("1 + 2 * 3", 7);
        dueWire("2 * 3 + 1", 7);
        dueWire("10 - 3 - 2", 5);
        dueWire("10 - 3 + 2", 9);
        dueWire("128 >> 1 >> 1", 32);
        dueWire("1 << 7 >> 7", 1);
        dueWire("3 > 2 > 1", 0);
        dueWire("5 == 5 == 1", 1);
        dueWire("5 != 4 != 1", 0);
        dueWire("-1 + 2", 1);
        dueWire("~0 >> 4", 15);
        dueWire("!2 + 1", 1);
        dueWire("!(2 + 254)", 1);
        dueWire("-~!0", 2);
        dueWire("0 ? 1 : 0 ? 2 : 3", 3);
        dueWire("1 ? 0 ? 4 : 5 : 6", 5);
        dueWire("1 || 1 ? 7 : 8", 7);
        dueWire("2 ? 7 : 8", 7);
        dueWire("200 + 100", 44);
        dueWire("3 - 5", 254);
        dueWire("16 * 17", 16);
        dueWire("255 * 255", 1);
        dueWire("-0", 0);
        dueWire("-128", 128);
        dueWire("~170", 85);
        dueWire("!0", 1);
        dueWire("!255", 0);
        dueWire("255 << 7", 128);
        dueWire("255 << 8", 0);
        dueWire("255 << 9", 0);
        dueWire("255 << 255", 0);
        dueWire("255 << 0", 255);
        dueWire("255 >> 7", 1);
        dueWire("255 >> 8", 0);
        dueWire("255 >> 16", 0);
        dueWire("255 >> 129", 0);
        dueWire("200 < 100", 0);
        dueWire("128 > 127", 1);
        dueWire("255 >= 255", 1);
        dueWire("0 <= 255", 1);
        dueWire("4 && 2", 1);
        dueWire("4 & 2", 0);
        dueWire("0 || 8", 1);
        dueWire("0 || 0", 0);
        for (String sign : new String[] {
            "||", "&&", "|", "^", "&", "==", "!=", "<", "<=", ">", ">=", "<<", ">>", "+", "-", "*"}) {
            allOperands(sign);
        }
    }

    /** Each sign on all of 256 VALUES with eight others, more than any circuit of one reg needs. */
    private static void allOperands(String sign) {
        int[] others = {0, 1, 2, 7, 8, 127, 128, 255};
        for (int b : others) {
            CircuitChecker x = Check.reader("reg a : 8 = 0; wire w = a " + sign + " " + b + ";");
            CircuitChecker y = Check.reader("reg a : 8 = 0; wire w = " + b + " " + sign + " a;");
            for (int a = 0; a < 256; a++) {
                x.go(a);
                y.go(a);
                Check.due(a + sign + b, x.value(1, 0), Model.apply(sign, a, b));
                Check.due(b + sign + a, y.value(1, 0), Model.apply(sign, b, a));
            }
        }
    }

    private static void fault() {
        CircuitChecker x = new CircuitChecker();
        Check.read(x, "reg a : 9 = 0;");
        Check.due("fault(0)", x.fault(0), 3);
        Check.due("fault(1)", x.fault(1), 8);
        Check.due("fault(2)", x.fault(2), -1);
        Check.due("fault(-1)", x.fault(-1), -1);
        x.feed(0, 0, 0, 0, 0);
        Check.due("fault(0) till the next read", x.fault(0), 3);
        x.end(0);
        x.read();
        Check.due("fault(0) of none", x.fault(0), 0);
        Check.due("fault(1) of none", x.fault(1), 0);
        names();
        numbers();
        manyNames();
        manyTokens();
        depths();
        costs();
    }

    private static void names() {
        Check.dueFaultAtMark(2, "wire a = @b;");
        Check.dueFaultAtMark(2, "wire a = @a;");
        Check.dueFaultAtMark(2, "wire a = 1; wire b = @a1;");
        Check.dueFaultAtMark(2, "wire a1 = 1; wire b = @a;");
        Check.dueFaultAtMark(2, "wire a = 1; wire b = @A1;");
        Check.dueFaultAtMark(2, "spec a = @a;");
        Check.dueFaultAtMark(2, "spec a = @b; spec b = {1};");
        Check.dueFaultAtMark(2, "reg a : 1 = 0; spec b = @a;");
        Check.dueFaultAtMark(2, "input a : 1; spec b = @a;");
        Check.dueFaultAtMark(2, "wire a = 1; spec b = AX @a;");
        Check.dueFaultAtMark(2, "spec a = {1}; spec b = {@a};");
        Check.dueFaultAtMark(2, "spec a = {1}; wire b = 1 + @a;");
        Check.dueFaultAtMark(2, "next @a = 1; reg a : 1 = 0;");
        Check.dueFaultAtMark(2, "wire a = 1; next @a = 1;");
        Check.dueFaultAtMark(2, "input a : 1; next @a = 1;");
        Check.dueFaultAtMark(2, "spec a = {1}; next @a = 1;");
        Check.dueFaultAtMark(2, "reg a : 1 = 0; next a = a; next @a = a;");
        Check.dueFaultAtMark(2, "reg a : 1 = 0; reg @a : 9 = 0;");
        Check.dueFaultAtMark(2, "reg a : 1 = 0; input @a : 1;");
        Check.dueFaultAtMark(2, "wire a = 1; spec @a = {1};");
        Check.dueFaultAtMark(2, "spec a = {1}; wire @a");
        Check.dueFaultAtMark(2, "wire a = @b %");
        Check.dueSound("reg a : 1 = 0; next a = a;");
    }

    private static void numbers() {
        Check.dueFaultAtMark(3, "reg a : @0 = 0;");
        Check.dueFaultAtMark(3, "reg a : @9 = 0;");
        Check.dueFaultAtMark(3, "reg a : @999999999 %");
        Check.dueFaultAtMark(3, "reg a : 1 = @2;");
        Check.dueFaultAtMark(3, "reg a : 8 = @256;");
        Check.dueFaultAtMark(3, "reg a : 3 = @8 %");
        Check.dueSound("reg a : 3 = 7; reg b : 5 = 31;");
        Check.dueSound("reg a : 008 = 00255;");
        Check.dueFaultAtMark(3, "reg a : 3 = 7; reg b : @6 = 31;");
        Check.dueFaultAtMark(3, "reg a : 8 = 7; reg b : @1 = 0;");
        Check.dueFaultAtMark(3, "input a : @0;");
        Check.dueFaultAtMark(3, "input a : @4;");
        Check.dueSound("input a : 1; input b : 1; input c : 1;");
        Check.dueSound("input a : 3; reg b : 8 = 0;");
        Check.dueFaultAtMark(3, "input a : 1; input b : @3;");
        Check.dueFaultAtMark(3, "input a : 3; input b : @1;");
        Check.dueFaultAtMark(3, "wire a = @256;");
        Check.dueFaultAtMark(3, "wire a = 255 + @999999999 %");
        Check.dueFaultAtMark(3, "spec a = {@1000};");
    }

    private static String wires(int from, int to) {
        StringBuilder s = new StringBuilder();
        for (int n = from; n < to; n++) {
            s.append("wire w").append(n).append(" = ").append(n == from ? "1" : "w" + (n - 1)).append(";");
        }
        return s.toString();
    }

    private static String specs(int number) {
        StringBuilder s = new StringBuilder();
        for (int n = 0; n < number; n++) {
            s.append("spec s").append(n).append(" = {1};");
        }
        return s.toString();
    }

    private static void manyNames() {
        String sixty = wires(0, 60);
        CircuitChecker x = Check.reader(sixty);
        Check.due("60 NAMES", x.count(1), 60);
        Check.due("the 60th", x.value(59, 0), 1);
        Check.dueThrow("the 61st", ELEMENT, () -> x.value(60, 0));
        Check.dueFaultAtMark(4, sixty + "wire @more = 1;");
        Check.dueFaultAtMark(4, sixty + "reg @more %");
        Check.dueFaultAtMark(2, sixty + "wire @w7 = 1;");
        Check.dueFaultAtMark(1, sixty + "wire @AX = 1;");
        CircuitChecker y = Check.reader(specs(30));
        Check.due("30 specs", y.count(0), 30);
        Check.due("the 30th", y.holds(29), true);
        Check.dueThrow("the 31st", ELEMENT, () -> y.holds(30));
        Check.dueFaultAtMark(4, specs(30) + "@spec s = {1};");
        Check.dueFaultAtMark(4, specs(30) + "@spec s0 = {1};");
        Check.dueFaultAtMark(4, specs(30) + "@spec");
        Check.dueFaultAtMark(4, specs(30) + wires(0, 30) + "@spec s0");
        Check.dueFaultAtMark(4, specs(30) + wires(0, 30) + "wire @w30");
        Check.dueSound(specs(30) + wires(0, 30));
    }

    private static void manyTokens() {
        // 7 + 4 + 994 * 2 + 500 * 4 = 3,999 WORDS, NUMBERS and signs, the last line left open
        String open = "spec s = {1}; spec t = s" + Check.times(994, "&&s") + Check.times(500, "||(s)");
        String whole = open + ";";
        Check.dueSound(whole);
        Check.dueSound(whole + " # ;;\n ");
        Check.due("a long spec", Check.reader(whole).holds(1), true);
        Check.dueFaultAtMark(4, whole + "@;");
        Check.dueFaultAtMark(4, whole + "@reg");
        Check.dueFaultAtMark(4, whole + "@%");
        Check.dueFaultAtMark(4, whole + "@" + Check.times(40, "x"));
        Check.dueFaultAtMark(4, whole + "#;\n @1234567890");
        Check.dueFaultAtMark(4, open + "||@s;");
        Check.dueFaultAtMark(4, open + "||@zz;");
        Check.dueFaultAtMark(1, open + "@");
        Check.dueFaultAtMark(1, open + "||@");
        Check.dueFaultAtMark(1, open + "@+;");
        Check.dueFaultAtMark(1, open + "@% ; ;");
        Check.dueFaultAtMark(1, "spec s = {1};@" + Check.times(4100, ";"));
        Check.dueFaultAtMark(1, "@%" + Check.times(4100, ";"));
    }

    /** What stands directly behind the last nest is the first that may be too deep. */
    private static void dueDeepest(String before, String nest, String inside, String close, int most) {
        dueDeepest(before, nest, inside, close, most, "");
    }

    private static void dueDeepest(String before, String nest, String inside, String close, int most, String behind) {
        Check.dueSound(before + Check.times(most, nest) + inside + Check.times(most, close) + behind + ";");
        String over = before + Check.times(most + 1, nest);
        Check.dueFault(over + inside + Check.times(most + 1, close) + behind + ";", 4, over.length());
        Check.dueFault(over + ";", 4, over.length());
        Check.dueFault(over + "%", 4, over.length());
        Check.dueFault(over + " # \n", 4, over.length() + 4);
        Check.dueFault(over + " " + Check.times(32, "z"), 4, over.length() + 1);
        Check.dueFault(over + "999", 4, over.length());
    }

    private static void depths() {
        dueDeepest("wire w = ", "(", "1", ")", 40);
        dueDeepest("wire w = ", "~", "1", "", 40);
        dueDeepest("wire w = ", "!", "1", "", 40);
        dueDeepest("wire w = -", "~", "1", "", 39);
        Check.dueSound("wire w = " + Check.times(20, "~(") + "1" + Check.times(20, ")") + ";");
        Check.dueFaultAtMark(4, "wire w = " + Check.times(20, "~(") + "~@(1" + Check.times(21, ")") + ";");
        dueDeepest("wire w = 1 || 1 && 1 | 1 ^ 1 & 1 == 1 < 1 << 1 + ", "(", "1", ")", 40);
        dueDeepest("wire w = ", "1?", "1", ":1", 40);
        dueDeepest("wire w = 1 ? 1 : ", "~", "1", "", 39);
        dueDeepest("reg a : 1 = 0; next a = ", "(", "a", ")", 40);
        dueDeepest("reg a : 1 = 0; next a = ", "~", "a", "", 40);
        dueDeepest("spec s = {", "(", "1", ")", 39, "}");
        dueDeepest("spec s = {", "~", "1", "", 39, "}");
        dueDeepest("spec s = ({", "1?", "1", ":1", 38, "})");
        dueDeepest("spec t = {1}; spec s = ", "!", "t", "", 40);
        for (String word : new String[] {"AX ", "EX ", "AF ", "EF ", "AG ", "EG "}) {
            dueDeepest("spec t = {1}; spec s = ", word, "t ", "", 40);
        }
        dueDeepest("spec t = {1}; spec s = ", "t->", "t", "", 40);
        dueDeepest("spec t = {1}; spec s = t && t || t -> t -> ", "(", "t", ")", 38);
        dueDeepest("spec t = {1}; spec s = ", "A[", "t ", "U t]", 40);
        dueDeepest("spec t = {1}; spec s = ", "E[", "t ", "U t]", 40);
        dueDeepest("spec t = {1}; spec s = A[ t U ", "!", "t ", "", 39, "]");
        dueDeepest("spec t = {1}; spec s = E[ t -> t U ", "AX ", "t ", "", 39, "]");
        Check.dueSound("spec t = {1}; spec s = " + Check.times(40, "A[ t U ") + "t" + Check.times(40, "]") + ";");
        Check.dueFaultAtMark(4, "spec t = {1}; spec s = " + Check.times(40, "E[ t U ") + "E[ @t U t" + Check.times(41, "]"));
        Check.dueSound("wire w = " + Check.times(40, "1?1:") + "1;");
        Check.dueFaultAtMark(4, "wire w = " + Check.times(40, "1?1:") + "1?@1:1;");
        Check.dueSound("spec s = " + Check.times(39, "(") + "{1}" + Check.times(39, ")") + ";");
        Check.dueSound("spec s = " + Check.times(39, "!") + "{1};");
        Check.dueSound("spec t = {1}; spec s = " + Check.times(40, "(") + "t" + Check.times(40, ")") + " -> t;");
        Check.dueSound("wire w = " + Check.times(40, "(") + "1" + Check.times(40, ")") + " ? 1 : 1;");
        Check.dueFaultAtMark(4, "wire w = 1 ? 1 : " + Check.times(40, "(") + "@1" + Check.times(40, ")") + ";");
        Check.dueFaultAtMark(4, "wire w = 1 ? " + Check.times(40, "~") + "@1 : 1;");
        Check.dueFaultAtMark(4, "spec s = " + Check.times(40, "(") + "{@1}" + Check.times(40, ")") + ";");
        Check.dueFaultAtMark(4, "spec s = " + Check.times(40, "!") + "{@1};");
    }

    private static void dueCosts(String text, int want) {
        CircuitChecker x = Check.reader(text);
        Check.due("fault of " + text, x.fault(0), 0);
        Check.due("COSTS of " + text, x.count(4), want);
    }

    private static void costs() {
        dueCosts("reg a : 1 = 0; input b : 1; wire c = (~(a)); wire d = 7;", 0);
        dueCosts("wire a = 1 & 2;", 24);
        dueCosts("wire a = 1 | 2;", 24);
        dueCosts("wire a = 1 ^ 2;", 24);
        dueCosts("wire a = !1;", 24);
        dueCosts("wire a = 1 && 2;", 24);
        dueCosts("wire a = 1 || 2;", 24);
        dueCosts("wire a = 1 == 2;", 32);
        dueCosts("wire a = 1 != 2;", 32);
        dueCosts("wire a = 1 < 2;", 96);
        dueCosts("wire a = 1 <= 2;", 96);
        dueCosts("wire a = 1 > 2;", 96);
        dueCosts("wire a = 1 >= 2;", 96);
        dueCosts("wire a = 1 + 2;", 96);
        dueCosts("wire a = 1 - 2;", 96);
        dueCosts("wire a = -2;", 96);
        dueCosts("wire a = 1 << 2;", 128);
        dueCosts("wire a = 1 >> 2;", 128);
        dueCosts("wire a = 1 * 2;", 900);
        dueCosts("wire a = 1 ? 2 : 3;", 40);
        dueCosts("reg a : 1 = 0; next a = a;", 8);
        dueCosts("spec a = {1};", 8);
        dueCosts("spec a = !({1} && AX {1} || A[{1} U {1}] -> EG {1});", 40);
        dueCosts("wire w = 1*1*1*1;", 2700);
        dueCosts("wire w = 1*1*1*1 + 1 + 1; wire v = 1 & 1 | 1 ^ !1; spec s = {1};", 2996);
        Check.dueFaultAtMark(4, "wire w = 1*1*1*1 + 1 + 1 + 1 @== 1 == 1 & 1;");
        Check.dueFaultAtMark(4, "wire w = 1*1*1*1 @* 1;");
        String most = "wire w = 1*1*1*1 + 1 + 1 == 1 & 1 ? 1 : 1; spec s = {1};";
        dueCosts(most, 2996);
        Check.dueFaultAtMark(4, most + "spec t = @{1};");
        Check.dueFaultAtMark(4, most + "spec t = s && @{ % ");
        Check.dueFaultAtMark(4, "reg r : 1 = 0;" + most + "@next % ");
        Check.dueFaultAtMark(4, most + "wire v = @!1;");
        Check.dueFaultAtMark(4, most + "wire v = ~@-1;");
        Check.dueFaultAtMark(4, most + "wire v = 1 @? ?");
        Check.dueFaultAtMark(4, most + "wire v = 1 @|| ?");
        Check.dueFaultAtMark(4, most + "wire v = 1 @* ?");
        Check.dueFaultAtMark(4, most + "wire v = (1 @<");
        Check.dueSound(most + "wire v = ((~~(w)));spec t = !s && s -> AX s;");
        Check.dueFaultAtMark(1, most + "wire v = @< 1;");
        String exact = "wire w = " + Check.times(124, "1&") + "1; spec s = {1}; spec t = {1}; spec u = {1};";
        dueCosts(exact, 3000);
        Check.dueFaultAtMark(4, exact + "spec v = @{1};");
        String nexts = "reg a:1=0;wire w = " + Check.times(124, "1|") + "1; spec s = {1}; spec t = {1};next a = w;";
        dueCosts(nexts, 3000);
        Check.dueFaultAtMark(4, "reg b:1=0;" + nexts + "@next b = 1;");
    }

    private static void holds() {
        CircuitChecker x = Check.reader(COUNTER);
        Check.due("holds(0)", x.holds(0), false);
        Check.due("holds(1)", x.holds(1), true);
        Check.due("holds(2)", x.holds(2), false);
        Check.due("holds(3)", x.holds(3), false);
        Check.dueThrow("holds(4)", ELEMENT, () -> x.holds(4));
        Check.dueThrow("holds(-1)", ELEMENT, () -> x.holds(-1));
        x.go(3);
        Check.due("holds(0) is of the FIRST STATE", x.holds(0), false);
    }

    private static void dueStates(String spec, String want) {
        // 0 -> 0 or 1; 1 -> 2 or 3; 2 -> 2; 3 -> 0 or 3
        String text = "reg s : 2 = 0; input i : 1; next s = s == 0 ? i : s == 1 ? 2 + i : s == 2 ? 2 : i ? 3 : 0;";
        CircuitChecker x = Check.reader(text + "spec one = { s == 1 }; spec f = " + spec + ";");
        Check.due("fault with " + spec, x.fault(0), 0);
        int size = 0;
        for (int s = 0; s < 4; s++) {
            boolean due = want.indexOf('0' + s) >= 0;
            size += due ? 1 : 0;
            Check.due(spec + " at " + s, x.at(1, s), due);
        }
        Check.due("states of " + spec, x.states(1), size);
        Check.due("holds of " + spec, x.holds(1), want.indexOf('0') >= 0);
    }

    private static void states() {
        dueStates("{ 1 }", "0123");
        dueStates("{ 0 }", "");
        dueStates("{ i }", "");
        dueStates("{ i || s }", "123");
        dueStates("{ i + s }", "123");
        dueStates("{ i + s - 2 }", "03");
        dueStates("one", "1");
        dueStates("!one", "023");
        dueStates("!{ i }", "0123");
        dueStates("EX one", "0");
        dueStates("AX one", "");
        dueStates("AX { s == 2 }", "2");
        dueStates("EX { s == 2 }", "12");
        dueStates("AX { s & 2 }", "12");
        dueStates("EF one", "013");
        dueStates("AF one", "1");
        dueStates("AF { s == 0 || s == 2 }", "02");
        dueStates("AF { s & 2 }", "123");
        dueStates("AG { s == 2 }", "2");
        dueStates("AG { s != 2 }", "");
        dueStates("EG { s != 2 }", "013");
        dueStates("EG { s == 0 }", "0");
        dueStates("EG one", "");
        dueStates("AG EF { s == 2 }", "0123");
        dueStates("E [ { s == 0 } U one ]", "01");
        dueStates("A [ { s == 0 } U one ]", "1");
        dueStates("E [ { s == 3 } U { s == 0 } ]", "03");
        dueStates("A [ { s == 1 } U { s & 2 } ]", "123");
        dueStates("E [ { 0 } U one ]", "1");
        dueStates("E [ { 1 } U { 0 } ]", "");
        dueStates("A [ { 1 } U { s == 2 } ]", "2");
        dueStates("one -> { 0 }", "023");
        dueStates("one -> one", "0123");
        dueStates("{ s == 3 } -> { 0 } -> { 0 }", "0123");
        dueStates("({ s == 3 } -> { 0 }) -> { 0 }", "3");
        dueStates("one || { s == 0 } && { 0 }", "1");
        dueStates("(one || { s == 0 }) && { s == 0 }", "0");
        dueStates("!one && { s == 0 }", "0");
        dueStates("!one || one -> one", "1");
        dueStates("EX one && one", "");
        dueStates("AX !one", "123");
        CircuitChecker x = Check.reader("reg a : 2 = 0; spec s = { a }; reg b : 2 = 2; spec t = AX { b == 0 }; next b = 4;");
        Check.due("what is declared later counts", x.states(0), 12);
        Check.due("a next that comes later counts", x.states(1), 16);
        Check.dueThrow("states(2)", ELEMENT, () -> x.states(2));
        Check.dueThrow("states(-1)", ELEMENT, () -> x.states(-1));
    }

    private static void at() {
        CircuitChecker x = Check.reader(COUNTER);
        Check.due("at(0, 3)", x.at(0, 3), true);
        Check.due("at(0, 2)", x.at(0, 2), false);
        Check.due("at(2, 3)", x.at(2, 3), true);
        Check.dueThrow("at(0, 4)", ELEMENT, () -> x.at(0, 4));
        Check.dueThrow("at(0, -1)", ELEMENT, () -> x.at(0, -1));
        Check.dueThrow("at(4, 0)", ELEMENT, () -> x.at(4, 0));
        Check.dueThrow("at(-1, 0)", ELEMENT, () -> x.at(-1, 0));
        CircuitChecker y = Check.reader("reg a : 8 = 0; spec s = { a >= 192 }; next a = a + 1; spec t = AF s;");
        Check.due("at(0, 255)", y.at(0, 255), true);
        Check.due("at(0, 191)", y.at(0, 191), false);
        Check.due("at(1, 0)", y.at(1, 0), true);
        Check.dueThrow("at(0, 256)", ELEMENT, () -> y.at(0, 256));
        CircuitChecker z = Check.reader("spec s = { 1 };");
        Check.due("at(0, 0) without regs", z.at(0, 0), true);
        Check.dueThrow("at(0, 1) without regs", ELEMENT, () -> z.at(0, 1));
    }

    private static void reachable() {
        Check.due("reachable: itself", Check.reader("reg a : 8 = 7;").reachable(), 1);
        Check.due("reachable: all", Check.reader("reg a : 8 = 7; next a = a - 1;").reachable(), 256);
        Check.due("reachable: even", Check.reader("reg a : 8 = 4; next a = a + 2;").reachable(), 128);
        Check.due("reachable: by inputs", Check.reader("reg a : 4 = 0; input i : 3; next a = i;").reachable(), 8);
        CircuitChecker x = Check.reader(COUNTER);
        x.go(3);
        Check.due("reachable: from the FIRST STATE", x.reachable(), 4);
        CircuitChecker y = Check.reader("reg a : 2 = 1; next a = a == 3 ? 3 : a + 1;");
        Check.due("reachable: not what lies before", y.reachable(), 3);
    }

    private static void trace() {
        CircuitChecker x = Check.reader(COUNTER);
        Check.due("trace(0)", x.trace(0), 2);
        Check.due("trace(0): STEPS", x.count(7), 2);
        Check.due("trace(0): the circuit stays", x.count(6), 1);
        Check.due("trace(3): no way", x.trace(3), -1);
        Check.due("trace(3): the TRACE stays", x.count(7), 2);
        Check.due("trace(3): its last STATE", x.step(2, 0), 3);
        Check.dueThrow("trace(4)", ELEMENT, () -> x.trace(4));
        Check.dueThrow("trace(-1)", ELEMENT, () -> x.trace(-1));
        Check.due("trace(1): none needed", x.trace(1), 0);
        Check.due("trace(1): STEPS", x.count(7), 0);
        Check.due("trace(1): its STATE", x.step(0, 0), 1);
        Check.due("trace(3): no way", x.trace(3), -1);
        Check.due("trace(3): the TRACE stays", x.step(0, 0), 1);
        // Both 6 (by 1 then 0) and 9 (by 0 then 3) are two STEPS away: the least first INPUTS win.
        CircuitChecker y = Check.reader("reg a : 4 = 0; input i : 2;"
            + "next a = a == 0 ? (i == 0 ? 1 : i == 1 ? 2 : 0) : a == 1 ? (i == 3 ? 9 : 1) : a == 2 ? (i ? 2 : 6) : a;"
            + "spec s = { a == 6 || a == 9 }; spec t = { a == 6 }; spec never = { a == 15 };");
        y.go(6);
        Check.due("trace: two STEPS", y.trace(0), 2);
        Check.due("trace: INPUTS", y.step(0, 1) * 10 + y.step(1, 1), 3);
        Check.due("trace: STATES", y.step(0, 0) * 100 + y.step(1, 0) * 10 + y.step(2, 0), 19);
        Check.due("trace: the other", y.trace(1), 2);
        Check.due("trace: INPUTS", y.step(0, 1) * 10 + y.step(1, 1), 10);
        Check.due("trace: STATES", y.step(0, 0) * 100 + y.step(1, 0) * 10 + y.step(2, 0), 26);
        CircuitChecker z = Check.reader("reg a : 8 = 0; next a = a + 1; spec last = { a == 255 };");
        Check.due("trace: the longest", z.trace(0), 255);
        Check.due("trace: its end", z.step(255, 0), 255);
        Check.due("trace: before", z.step(254, 0), 254);
    }

    private static void step() {
        CircuitChecker x = Check.reader(COUNTER);
        Check.dueThrow("step without a TRACE", ELEMENT, () -> x.step(0, 0));
        Check.dueThrow("step without a TRACE, another what", ELEMENT, () -> x.step(0, 2));
        x.trace(0);
        int[][] due = {{1, 1}, {2, 1}};
        for (int i = 0; i < 2; i++) {
            Check.due("step(" + i + ", 0)", x.step(i, 0), due[i][0]);
            Check.due("step(" + i + ", 1)", x.step(i, 1), due[i][1]);
        }
        Check.due("step(2, 0)", x.step(2, 0), 3);
        Check.dueThrow("step(2, 1)", ELEMENT, () -> x.step(2, 1));
        Check.dueThrow("step(3, 0)", ELEMENT, () -> x.step(3, 0));
        Check.dueThrow("step(-1, 0)", ELEMENT, () -> x.step(-1, 0));
        Check.dueThrow("step(-1, 1)", ELEMENT, () -> x.step(-1, 1));
        Check.dueThrow("step(0, 2)", ARGUMENT, () -> x.step(0, 2));
        Check.dueThrow("step(1, -1)", ARGUMENT, () -> x.step(1, -1));
        // There is a STATE at 2, so only the what is wrong.
        Check.dueThrow("step(2, 2)", ARGUMENT, () -> x.step(2, 2));
        Check.dueThrow("step(3, 2)", ELEMENT, () -> x.step(3, 2));
        Check.dueThrow("step(-1, 2)", ELEMENT, () -> x.step(-1, 2));
        Check.dueThrow("step(max, 0)", ELEMENT, () -> x.step(Integer.MAX_VALUE, 0));
        x.trace(1);
        Check.dueThrow("step(1, 0) of a shorter TRACE", ELEMENT, () -> x.step(1, 0));
        Check.dueThrow("step(0, 1) of no STEPS", ELEMENT, () -> x.step(0, 1));
    }

    private static void tick() {
        CircuitChecker x = Check.reader(COUNTER);
        Check.due("tick(1)", x.tick(1), 2);
        Check.due("tick(0)", x.tick(0), 2);
        Check.due("tick(1)", x.tick(1), 3);
        Check.due("tick(1): modulo its bits", x.tick(1), 0);
        Check.dueThrow("tick(2)", ARGUMENT, () -> x.tick(2));
        Check.dueThrow("tick(-1)", ARGUMENT, () -> x.tick(-1));
        Check.due("tick: what throws changes nothing", x.count(6), 0);
        CircuitChecker y = Check.reader("reg a : 3 = 1; reg b : 3 = 6; reg c : 1 = 1; next a = b; next b = a;");
        Check.due("tick: all at once", y.tick(0), (6 << 3 | 1) << 1 | 1);
        CircuitChecker z = Check.reader("input i : 2; reg a : 4 = 0; input j : 1; next a = i + j * 8;");
        Check.due("tick: the first input is the highest", z.tick(6), 3);
        Check.due("tick: the last input is the lowest", z.tick(1), 8);
    }

    private static void go() {
        CircuitChecker x = Check.reader(COUNTER);
        Check.due("go(3)", x.go(3), 1);
        Check.due("go(0)", x.go(0), 3);
        Check.due("go(0) again", x.go(0), 0);
        Check.dueThrow("go(4)", ARGUMENT, () -> x.go(4));
        Check.dueThrow("go(-1)", ARGUMENT, () -> x.go(-1));
        Check.due("go: what throws changes nothing", x.count(6), 0);
        CircuitChecker y = Check.reader("reg a : 8 = 0;");
        Check.due("go(255)", y.go(255), 0);
        Check.dueThrow("go(256)", ARGUMENT, () -> y.go(256));
        Check.due("go: and stay", y.tick(0), 255);
    }

    private static void value() {
        CircuitChecker x = Check.reader(COUNTER);
        int[] due = {1, 0, 1, 0, 1, 0, 0};
        int[] dueWithOne = {1, 1, 2, 0, 1, 0, 0};
        int[] dueLast = {3, 1, 4, 1, 1, 1, 0};
        for (int n = 0; n < due.length; n++) {
            Check.due("value(" + n + ", 0)", x.value(n, 0), due[n]);
            Check.due("value(" + n + ", 1)", x.value(n, 1), dueWithOne[n]);
        }
        x.go(3);
        for (int n = 0; n < due.length; n++) {
            int name = n;
            Check.due("value(" + n + ", 1) at 3", x.value(n, 1), dueLast[n]);
            Check.dueThrow("value(" + n + ", 2)", ARGUMENT, () -> x.value(name, 2));
            Check.dueThrow("value(" + n + ", -1)", ARGUMENT, () -> x.value(name, -1));
        }
        Check.dueThrow("value(7, 0)", ELEMENT, () -> x.value(7, 0));
        Check.dueThrow("value(7, 2)", ELEMENT, () -> x.value(7, 2));
        Check.dueThrow("value(-1, 0)", ELEMENT, () -> x.value(-1, 0));
        Check.dueThrow("value(-1, -1)", ELEMENT, () -> x.value(-1, -1));
        CircuitChecker y = Check.reader("reg a : 3 = 5; input i : 2; wire v = ~a; reg b : 2 = 2; input j : 1; wire w = v + i;");
        Check.due("value of the first reg", y.value(0, 5), 5);
        Check.due("value of the first input", y.value(1, 5), 2);
        Check.due("value of a wire", y.value(2, 5), 250);
        Check.due("value of the last reg", y.value(3, 5), 2);
        Check.due("value of the last input", y.value(4, 5), 1);
        Check.due("value of a wire of a wire", y.value(5, 5), 252);
    }

    private static void count() {
        CircuitChecker x = Check.reader(COUNTER);
        x.feed(0, 0, 0, 0, 0);
        x.tick(1);
        x.trace(0);
        int[] due = {4, 7, 2, 1, 8 + 96 + 8 + 32 + 8 + 96, 20, 2, 2, -1};
        for (int what = 0; what < due.length; what++) {
            Check.due("count(" + what + ")", x.count(what), due[what]);
        }
        Check.due("count(-1)", x.count(-1), -1);
        Check.due("count(max)", x.count(Integer.MAX_VALUE), -1);
    }
}
