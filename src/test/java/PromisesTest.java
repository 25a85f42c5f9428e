import java.util.NoSuchElementException;
import java.util.function.Function;
import java.util.function.Supplier;

/** The promises 1 to 15, sentence by sentence: ordinary inputs, edges and wrong inputs. */
public final class PromisesTest {
    private static final Class<IllegalStateException> STATE = IllegalStateException.class;
    private static final Class<IllegalArgumentException> ARGUMENT = IllegalArgumentException.class;
    private static final Class<NoSuchElementException> ELEMENT = NoSuchElementException.class;
    private static final int MIN = Integer.MIN_VALUE;
    private static final int MAX = Integer.MAX_VALUE;
    private static final int BLANKS = 0x20202020;
    /** Counts up while go is 1; a has two bits. */
    private static final String COUNTER = "reg a : 2 = 1; input go : 1; wire up = a + go; next a = up;"
        + "spec three = { a == 3 }; spec can = EF three; spec must = AF three; spec never = { a > 3 };";

    public static void main(String[] args) {
        newObject();
        newCircuit();
        firstException();
        throwsChangeNothing();
        fiveHundredAndTwelveCalls();
        feed();
        lengthOfFeed();
        fullTape();
        noRoom();
        end();
        endOutOfRange();
        read();
        readCircuit();
        readFaulty();
        inputsAreNotKept();
        fault();
        placeOfFault();
        placeOfTheEnd();
        otherFaults();
        holds();
        holdsNoSpec();
        states();
        statesNoSpec();
        at();
        atNoSpec();
        reachable();
        trace();
        noWay();
        leastInputs();
        traceNoSpec();
        step();
        inputsOfSteps();
        noStep();
        otherSteps();
        tick();
        tickNoInputs();
        go();
        goNoState();
        value();
        valueOfSpecs();
        valueNoName();
        valueNoInputs();
        count();
        otherCounts();
        Check.finish();
    }

    /** The counter in another STATE than the first, with a TRACE and with a text on the TAPE. */
    private static CircuitChecker busy() {
        CircuitChecker x = Check.reader(COUNTER);
        x.trace(0);
        x.go(2);
        Check.feed(x, Check.bytes("reg q : 2 = 3; spec s = { q };"));
        return x;
    }

    /** An object whose last text had a FAULT, with a text on the TAPE. */
    private static CircuitChecker faulty() {
        CircuitChecker x = Check.reader(COUNTER + "spec");
        Check.feed(x, Check.bytes("reg q : 2 = 3; spec s = { q };"));
        return x;
    }

    private static void dueRefused(String what, Class<? extends RuntimeException> want,
            Function<CircuitChecker, Object> call) {
        Refusal.due(what, want, PromisesTest::busy, call);
    }

    private static void dueRefusedWhenEmpty(String what, Class<? extends RuntimeException> want,
            Function<CircuitChecker, Object> call) {
        Supplier<CircuitChecker> made = CircuitChecker::new;
        Refusal.due("new: " + what, want, made, call);
        Refusal.due("after a FAULT: " + what, want, PromisesTest::faulty, call);
    }

    private static void dueEmptyCircuit(String when, CircuitChecker x) {
        int[] counts = {0, 0, 0, 0, 0, 0, 0, 0, -1};
        for (int what = 0; what < counts.length; what++) {
            Check.due(when + "count(" + what + ")", x.count(what), counts[what]);
        }
        Check.due(when + "reachable()", x.reachable(), 1);
        Check.dueThrow(when + "holds(0)", ELEMENT, () -> x.holds(0));
        Check.dueThrow(when + "states(0)", ELEMENT, () -> x.states(0));
        Check.dueThrow(when + "at(0, 0)", ELEMENT, () -> x.at(0, 0));
        Check.dueThrow(when + "trace(0)", ELEMENT, () -> x.trace(0));
        Check.dueThrow(when + "step(0, 0)", ELEMENT, () -> x.step(0, 0));
        Check.dueThrow(when + "step(0, 1)", ELEMENT, () -> x.step(0, 1));
        Check.dueThrow(when + "value(0, 0)", ELEMENT, () -> x.value(0, 0));
        Check.due(when + "tick(0)", x.tick(0), 0);
        Check.dueThrow(when + "tick(1)", ARGUMENT, () -> x.tick(1));
        Check.due(when + "go(0)", x.go(0), 0);
        Check.dueThrow(when + "go(1)", ARGUMENT, () -> x.go(1));
        Check.due(when + "count(6)", x.count(6), 0);
    }

    private static void newObject() {
        Check.sentence("CircuitChecker(): An empty TAPE");
        CircuitChecker x = new CircuitChecker();
        Check.due("count(5)", x.count(5), 0);
        Check.dueThrow("end(1)", ARGUMENT, () -> x.end(1));
        Check.due("end(0)", x.end(0), 0);
        Check.due("read()", new CircuitChecker().read(), 0);
    }

    private static void newCircuit() {
        Check.sentence("a circuit without regs, inputs and specs: it has one STATE.");
        CircuitChecker y = new CircuitChecker();
        dueEmptyCircuit("new: ", y);
        Check.due("fault(0)", y.fault(0), 0);
        Check.due("fault(1)", y.fault(1), 0);
        Check.due("read()", y.read(), 0);
        dueEmptyCircuit("new and read: ", y);
    }

    private static void firstException() {
        Check.sentence("(Of two exceptions of a call the one listed first is thrown");
        CircuitChecker z = busy();
        Check.dueThrow("step(9, 9)", ELEMENT, () -> z.step(9, 9));
        Check.dueThrow("step(-1, -1)", ELEMENT, () -> z.step(-1, -1));
        Check.dueThrow("value(9, 9)", ELEMENT, () -> z.value(9, 9));
        Check.dueThrow("value(-1, -1)", ELEMENT, () -> z.value(-1, -1));
        CircuitChecker y = new CircuitChecker();
        Check.dueThrow("a new object's step(0, 2)", ELEMENT, () -> y.step(0, 2));
        Check.dueThrow("a new object's value(0, 1)", ELEMENT, () -> y.value(0, 1));
    }

    private static void throwsChangeNothing() {
        Check.sentence("what throws changes nothing.)");
        dueRefused("end(-1)", ARGUMENT, o -> o.end(-1));
        dueRefused("value(9, 9)", ELEMENT, o -> o.value(9, 9));
        dueRefused("trace(9)", ELEMENT, o -> o.trace(9));
        dueRefused("tick(9)", ARGUMENT, o -> o.tick(9));
        dueRefused("go(9)", ARGUMENT, o -> o.go(9));
    }

    private static void fiveHundredAndTwelveCalls() {
        Check.sentence("An object is used for at most 512 calls after it has been made");
        String text = "reg a : 8 = 0; next a = a + 1;";
        CircuitChecker x = new CircuitChecker();
        int calls = Check.feed(x, Check.bytes(text)) + 1;
        x.read();
        for (int n = 1; calls < 512; n++) {
            Check.due("call " + calls, x.tick(0), n & 255);
            calls++;
        }
    }

    private static void feed() {
        Check.sentence("The four bytes of each number, the highest first, come to the TAPE");
        for (int place = 0; place < 20; place++) {
            for (int b : new int[] {'%', 0, 127, 128, 255}) {
                int[] words = {BLANKS, BLANKS, BLANKS, BLANKS, BLANKS};
                int shift = 24 - place % 4 * 8;
                words[place / 4] = words[place / 4] & ~(255 << shift) | b << shift;
                CircuitChecker x = new CircuitChecker();
                x.feed(words[0], words[1], words[2], words[3], words[4]);
                Check.due("read() with byte " + b + " at " + place, x.read(), -1);
                Check.due("its place", x.fault(1), place);
            }
        }
        CircuitChecker x = new CircuitChecker();
        x.feed(0x72656720, 0x613a313d, 0x303b7370, 0x65632073, 0x3d7b7e61);
        x.feed(0x7d3b2020, BLANKS, BLANKS, BLANKS, BLANKS);
        Check.due("read()", x.read(), 1);
        Check.due("its spec", x.holds(0), true);
    }

    private static void lengthOfFeed() {
        Check.sentence("its length.");
        CircuitChecker y = new CircuitChecker();
        Check.due("the first", y.feed(0, -1, MIN, MAX, 1), 20);
        Check.due("the second", y.feed(0, 0, 0, 0, 0), 40);
        Check.due("count(5)", y.count(5), 40);
        y.end(7);
        Check.due("behind 7", y.feed(0, 0, 0, 0, 0), 27);
        y.read();
        Check.due("after read", y.feed(0, 0, 0, 0, 0), 20);
    }

    /** A TAPE takes more calls to fill than the 512 that are promised; it is looked at all the same. */
    private static CircuitChecker almostFull() {
        CircuitChecker x = new CircuitChecker();
        for (int n = 1; n <= 3276; n++) {
            Check.due("feed", x.feed(BLANKS, BLANKS, BLANKS, BLANKS, BLANKS), 20 * n);
        }
        x.end(65516);
        return x;
    }

    private static void fullTape() {
        Check.sentence("THE TAPE: bytes gathered by feed, at most 65,536.");
        CircuitChecker x = almostFull();
        Check.due("just room for 20", x.feed(BLANKS, BLANKS, BLANKS, BLANKS, BLANKS - 7), 65536);
        Check.due("count(5)", x.count(5), 65536);
        Check.due("end(65536)", x.end(65536), 65536);
        Check.due("a full TAPE is read to its last byte", x.read(), -1);
        Check.due("the place of the last byte", x.fault(1), 65535);
        Check.due("there is room again", x.feed(BLANKS, BLANKS, BLANKS, BLANKS, BLANKS), 20);
        Check.due("read()", x.read(), 0);
    }

    private static void noRoom() {
        Check.sentence("IllegalStateException: there is no room for 20.");
        CircuitChecker x = almostFull();
        x.feed(BLANKS, BLANKS, BLANKS, BLANKS, BLANKS);
        Check.dueThrow("full", STATE, () -> x.feed(0, 0, 0, 0, 0));
        Check.due("what throws changes nothing", x.count(5), 65536);
        for (int length : new int[] {65535, 65526, 65518, 65517}) {
            x.end(length);
            Check.dueThrow("feed at " + length, STATE, () -> x.feed(0, 0, 0, 0, 0));
            Check.due("what throws changes nothing", x.count(5), length);
        }
        x.end(65516);
        Check.due("just room for 20 again", x.feed(BLANKS, BLANKS, BLANKS, BLANKS, BLANKS), 65536);
        Check.due("what was refused is not on the TAPE", x.read(), 0);
    }

    private static void end() {
        Check.sentence("Only the first n bytes of the TAPE stay: n.");
        CircuitChecker x = new CircuitChecker();
        x.feed(0x72656720, 0x613a313d, 0x303b2525, BLANKS, BLANKS);
        Check.due("all", x.end(20), 20);
        Check.due("count(5)", x.count(5), 20);
        Check.due("one less", x.end(19), 19);
        Check.due("10", x.end(10), 10);
        Check.due("count(5)", x.count(5), 10);
        Check.due("feed goes on behind", x.feed(0x72656720, 0x623a313d, 0x313b2020, BLANKS, BLANKS), 30);
        Check.due("read()", x.read(), 0);
        Check.due("both regs", x.count(2), 2);
        Check.due("the STATE", x.count(6), 1);
        x.feed(-1, -1, -1, -1, -1);
        Check.due("none", x.end(0), 0);
        Check.due("count(5)", x.count(5), 0);
        Check.due("read() of nothing", x.read(), 0);
        CircuitChecker busy = busy();
        busy.end(3);
        Check.due("the circuit stays", busy.count(0) * 100 + busy.count(6) * 10 + busy.count(7), 422);
    }

    private static void endOutOfRange() {
        Check.sentence("IllegalArgumentException: n is not 0 .. its length.");
        CircuitChecker y = new CircuitChecker();
        Check.due("0 of nothing", y.end(0), 0);
        for (int n : new int[] {-1, 1, 20, 65536, MIN, MAX}) {
            dueRefusedWhenEmpty("end(" + n + ")", ARGUMENT, o -> o.end(n < 0 ? n : n + o.count(5)));
            dueRefused("end(" + n + " too many)", ARGUMENT, o -> o.end(n < 0 ? n : Math.max(n, n + o.count(5))));
        }
        y.feed(0, 0, 0, 0, 0);
        Check.dueThrow("21 of 20", ARGUMENT, () -> y.end(21));
        y.end(3);
        Check.dueThrow("what is gone is gone", ARGUMENT, () -> y.end(4));
        Check.due("3 of 3", y.end(3), 3);
        y.read();
        Check.dueThrow("after read", ARGUMENT, () -> y.end(1));
    }

    private static void read() {
        Check.sentence("The TAPE is the TEXT (and empty then)");
        CircuitChecker x = new CircuitChecker();
        Check.due("read()", Check.read(x, COUNTER), 4);
        Check.due("the TAPE is empty", x.count(5), 0);
        Check.due("of a faulty text", Check.read(x, "reg"), -1);
        Check.due("the TAPE is empty, too", x.count(5), 0);
        Check.due("of nothing", x.read(), 0);
        Check.due("the TAPE is empty, too", x.count(5), 0);
        dueEmptyCircuit("read of nothing: ", x);
    }

    private static void readCircuit() {
        Check.sentence("the circuit is its own, in the FIRST STATE, INPUTS 0, no TRACE: how many specs.");
        CircuitChecker x = new CircuitChecker();
        Check.due("no specs", Check.read(x, "reg a : 1 = 0;"), 0);
        Check.due("one spec", Check.read(x, "spec a = {1};"), 1);
        Check.due("four specs", Check.read(x, COUNTER), 4);
        Check.due("the FIRST STATE", x.count(6), 1);
        x.go(3);
        x.trace(0);
        Check.due("the same again", Check.read(x, COUNTER), 4);
        Check.due("the FIRST STATE again", x.count(6), 1);
        Check.due("no STEPS", x.count(7), 0);
        Check.dueThrow("no TRACE", ELEMENT, () -> x.step(0, 0));
        x.go(3);
        x.trace(0);
        Check.due("another", Check.read(x, "reg a : 3 = 5; reg b : 1 = 1; next a = b ? 1 : a;"), 0);
        Check.due("its FIRST STATE", x.count(6), 11);
        Check.dueThrow("no TRACE", ELEMENT, () -> x.step(0, 0));
        Check.dueThrow("no spec", ELEMENT, () -> x.holds(0));
        Check.due("its STEP", x.tick(0), 3);
        Check.due("its NAMES", x.count(1), 2);
        Check.dueThrow("no INPUTS but 0", ARGUMENT, () -> x.tick(1));
    }

    private static void inputsAreNotKept() {
        Check.sentence("No INPUTS are kept: each call has its own.");
        CircuitChecker y = Check.reader("reg a : 3 = 0; input i : 2; next a = a + i; wire w = i + 10;");
        y.tick(3);
        Check.due("value(1, 0) after tick(3)", y.value(1, 0), 0);
        Check.due("value(2, 2)", y.value(2, 2), 12);
        Check.due("value(2, 0)", y.value(2, 0), 10);
        Check.due("tick(0)", y.tick(0), 3);
    }

    private static void readFaulty() {
        Check.sentence("-1: a FAULT; the circuit is the one without regs, inputs and specs (STATE, COSTS, NAMES 0, no TRACE).");
        String[] faulty = {
            COUNTER + "spec", COUNTER + "wire a = 1;", COUNTER + "reg b : 7 = 0;", COUNTER + "wire b = 1*1*1*1*1;", "%",
            "reg a : 8 = 255; input i : 3; wire w = 1 + 1; next a = w; spec s = {1}; spec s = {1};"};
        for (String text : faulty) {
            CircuitChecker x = Check.reader(COUNTER);
            x.go(3);
            x.trace(0);
            Check.due("read()", Check.read(x, text), -1);
            dueEmptyCircuit("after " + text + ": ", x);
            Check.due("a sound text again", Check.read(x, COUNTER), 4);
            Check.due("fault(0)", x.fault(0), 0);
            Check.due("NAMES", x.count(1), 7);
            Check.due("COSTS", x.count(4), 8 + 96 + 8 + 32 + 8 + 96);
            CircuitChecker y = new CircuitChecker();
            Check.due("read() at first", Check.read(y, text), -1);
            dueEmptyCircuit("after " + text + " alone: ", y);
        }
    }

    private static void fault() {
        Check.sentence("Of the last read: what 0 the FAULT (0: none)");
        CircuitChecker x = new CircuitChecker();
        Check.due("no read yet", x.fault(0), 0);
        String[] texts = {"", "%", "wire a = b;", "reg a : 9 = 0;", Texts.specs(31)};
        for (int due = 0; due < texts.length; due++) {
            Check.read(x, texts[due]);
            Check.due("fault " + due, x.fault(0), due);
            x.feed(0, 0, 0, 0, 0);
            x.tick(0);
            Check.due("till the next read", x.fault(0), due);
            x.end(0);
        }
        x.read();
        Check.due("none again", x.fault(0), 0);
    }

    private static void placeOfFault() {
        Check.sentence("1 its place: the number, from 0, of the first byte of the WORD, NUMBER or sign in the TAPE");
        Check.dueFaultAtMark(1, "@%");
        Check.dueFaultAtMark(1, " @%");
        Check.dueFaultAtMark(1, "reg a : 1 = 0; @word");
        Check.dueFaultAtMark(1, "reg a : 1 = 0; @12345");
        Check.dueFaultAtMark(1, "reg a : 1 = 0; @&&");
        Check.dueFaultAtMark(2, "wire a = 1 +\n  @abcdefg + 1;");
        Check.dueFaultAtMark(3, "wire a = 1 + # +\n\t@00256;");
        CircuitChecker y = Check.reader("wire a = b;");
        y.feed(BLANKS, BLANKS, BLANKS, BLANKS, BLANKS - 7);
        Check.due("till the next read", y.fault(1), 9);
        y.read();
        Check.due("of the next read", y.fault(1), 19);
    }

    private static void placeOfTheEnd() {
        Check.sentence("of the end the TAPE's length (0 without a FAULT)");
        Check.dueFaultAtMark(1, "reg@");
        Check.dueFaultAtMark(1, "reg a : 1 = 0   \n # ;\n @");
        Check.dueSound("reg a : 1 = 0;");
        CircuitChecker y = Check.reader("wire a = b;");
        Check.read(y, "wire a = 1;");
        Check.due("after a FAULT", y.fault(1), 0);
    }

    private static void otherFaults() {
        Check.sentence("Else -1.");
        CircuitChecker z = Check.reader("reg a : 9 = 0;");
        for (int what : new int[] {-1, 2, 3, 256, MIN, MAX}) {
            Check.due("fault(" + what + ")", z.fault(what), -1);
            Check.due("fault(" + what + ") of none", new CircuitChecker().fault(what), -1);
        }
        Check.due("fault(0)", z.fault(0), 3);
        Check.due("fault(1)", z.fault(1), 8);
    }

    private static void holds() {
        Check.sentence("Whether spec s (numbered from 0) is so at the FIRST STATE.");
        CircuitChecker x = Check.reader(COUNTER);
        boolean[] due = {false, true, false, false};
        for (int state = 0; state < 4; state++) {
            x.go(state);
            for (int s = 0; s < due.length; s++) {
                Check.due("holds(" + s + ") in STATE " + state, x.holds(s), due[s]);
            }
        }
        Check.due("without regs", Check.reader("wire w = 1; spec s = {w};").holds(0), true);
    }

    private static void holdsNoSpec() {
        Check.sentence("NoSuchElementException: there is none.");
        for (int s : new int[] {-1, 4, 5, 30, 64, MIN, MAX}) {
            dueRefused("holds(" + s + ")", ELEMENT, o -> o.holds(s));
        }
        for (int s : new int[] {-1, 0, 1}) {
            dueRefusedWhenEmpty("holds(" + s + ")", ELEMENT, o -> o.holds(s));
        }
    }

    private static void states() {
        Check.sentence("At how many STATES of all it is so.");
        CircuitChecker x = Check.reader("reg a : 8 = 7; spec none = {0}; spec all = {1}; spec one = {a == 255};"
            + "spec most = {a}; spec half = {a & 128}; spec low = {a < 64};");
        int[] due = {0, 256, 1, 255, 128, 64};
        for (int s = 0; s < due.length; s++) {
            Check.due("states(" + s + "), though only one can be come to", x.states(s), due[s]);
        }
        Check.due("of one STATE", Check.reader("spec s = {1};").states(0), 1);
        Check.due("none of one STATE", Check.reader("spec s = {0};").states(0), 0);
        Check.due("of two STATES", Check.reader("reg a : 1 = 0; spec s = !{0};").states(0), 2);
    }

    private static void statesNoSpec() {
        Check.sentence("NoSuchElementException: there is none.");
        for (int s : new int[] {-1, 4, 5, 30, MIN, MAX}) {
            dueRefused("states(" + s + ")", ELEMENT, o -> o.states(s));
        }
        for (int s : new int[] {-1, 0, 1}) {
            dueRefusedWhenEmpty("states(" + s + ")", ELEMENT, o -> o.states(s));
        }
    }

    private static void at() {
        Check.sentence("Whether it is so at a STATE.");
        CircuitChecker x = Check.reader("reg a : 8 = 0; spec s = { a >= 192 }; next a = a + 1; spec t = EX s;");
        for (int state = 0; state < 256; state += 1 + state % 7) {
            Check.due("at(0, " + state + ")", x.at(0, state), state >= 192);
            Check.due("at(1, " + state + ")", x.at(1, state), state >= 191 && state < 255);
        }
        for (int state : new int[] {63, 64, 127, 128, 190, 191, 192, 254, 255}) {
            Check.due("at(0, " + state + ")", x.at(0, state), state >= 192);
            Check.due("at(1, " + state + ")", x.at(1, state), state >= 191 && state < 255);
        }
        CircuitChecker z = Check.reader("spec s = { 1 };");
        Check.due("at(0, 0) without regs", z.at(0, 0), true);
    }

    private static void atNoSpec() {
        Check.sentence("NoSuchElementException: there is no such spec, or STATE.");
        CircuitChecker x = Check.reader("reg a : 8 = 0; spec s = { a }; spec t = { 1 };");
        CircuitChecker z = Check.reader("spec s = { 1 };");
        Check.dueThrow("at(0, 1) without regs", ELEMENT, () -> z.at(0, 1));
        Check.dueThrow("at(0, 256)", ELEMENT, () -> x.at(0, 256));
        Check.dueThrow("at(2, 255)", ELEMENT, () -> x.at(2, 255));
        for (int state : new int[] {-1, 4, 64, 256, MIN, MAX}) {
            dueRefused("at(0, " + state + ")", ELEMENT, o -> o.at(0, state));
            dueRefused("at(4, " + state + ")", ELEMENT, o -> o.at(4, state));
            dueRefused("at(" + state + ", 0)", ELEMENT, o -> o.at(state, 0));
        }
        dueRefusedWhenEmpty("at(0, 0)", ELEMENT, o -> o.at(0, 0));
        dueRefusedWhenEmpty("at(0, 1)", ELEMENT, o -> o.at(0, 1));
    }

    private static void reachable() {
        Check.sentence("How many STATES can be come to from the FIRST one (itself, too).");
        Check.due("no regs", Check.reader("input i : 3;").reachable(), 1);
        Check.due("itself", Check.reader("reg a : 8 = 7;").reachable(), 1);
        Check.due("itself and where it stays", Check.reader("reg a : 8 = 7; next a = 9;").reachable(), 2);
        Check.due("all", Check.reader("reg a : 8 = 7; next a = a - 1;").reachable(), 256);
        Check.due("even ones", Check.reader("reg a : 8 = 4; next a = a + 2;").reachable(), 128);
        Check.due("by inputs", Check.reader("reg a : 4 = 0; input i : 3; next a = i;").reachable(), 8);
        Check.due("by the last INPUTS alone", Check.reader("reg a : 4 = 0; input i : 3; next a = i == 7 ? 9 : a;").reachable(), 2);
        Check.due("not what lies before", Check.reader("reg a : 2 = 1; next a = a == 3 ? 3 : a + 1;").reachable(), 3);
        CircuitChecker x = Check.reader("reg a : 2 = 2; next a = a == 3 ? 3 : a + 1;");
        x.go(0);
        Check.due("from the FIRST one, wherever it is", x.reachable(), 2);
        x.tick(0);
        Check.due("after a STEP", x.reachable(), 2);
    }

    private static void trace() {
        Check.sentence("How many STEPS it takes at least from the FIRST STATE to one at which spec s is so");
        CircuitChecker x = Check.reader(COUNTER);
        x.go(3);
        Check.due("trace(0)", x.trace(0), 2);
        Check.due("its STEPS", x.count(7), 2);
        Check.due("the circuit stays where it is", x.count(6), 3);
        Check.due("trace(1): none needed", x.trace(1), 0);
        Check.due("its STEPS", x.count(7), 0);
        Check.due("its STATE", x.step(0, 0), 1);
        CircuitChecker y = Check.reader("reg a : 8 = 0; next a = a + 1; spec last = { a == 255 }; spec near = { a == 1 };");
        Check.due("the longest", y.trace(0), 255);
        Check.due("its end", y.step(255, 0), 255);
        Check.due("before its end", y.step(254, 0), 254);
        Check.dueThrow("no STATE behind its end", ELEMENT, () -> y.step(256, 0));
        Check.due("the shortest but none", y.trace(1), 1);
        Check.due("without regs", Check.reader("spec s = {1};").trace(0), 0);
    }

    private static void noWay() {
        Check.sentence("-1: there is no way (the TRACE stays as it was).");
        CircuitChecker x = Check.reader(COUNTER);
        x.trace(1);
        Check.due("trace(3)", x.trace(3), -1);
        Check.due("the TRACE of no STEPS stays", x.step(0, 0), 1);
        x.trace(0);
        Check.due("trace(3)", x.trace(3), -1);
        Check.due("the TRACE of two STEPS stays", x.count(7), 2);
        Check.due("its last STATE", x.step(2, 0), 3);
        CircuitChecker none = Check.reader(COUNTER);
        Check.due("trace(3) at first", none.trace(3), -1);
        Check.dueThrow("there is still no TRACE", ELEMENT, () -> none.step(0, 0));
        Check.due("nor are there STEPS", none.count(7), 0);
        CircuitChecker before = Check.reader("reg a : 2 = 1; next a = a == 3 ? 3 : a + 1; spec s = {a == 0}; spec t = {a == 3};");
        Check.due("a STATE that can't be come to", before.trace(0), -1);
        Check.dueThrow("nor is there a TRACE to it", ELEMENT, () -> before.step(0, 0));
        Check.due("another one", before.trace(1), 2);
        Check.due("a STATE that can't be come to", before.trace(0), -1);
        Check.due("the TRACE to the other one stays", before.count(7) * 10 + before.step(2, 0), 23);
    }

    private static void traceNoSpec() {
        Check.sentence("NoSuchElementException: there is no such spec.");
        for (int s : new int[] {-1, 4, 5, 30, MIN, MAX}) {
            dueRefused("trace(" + s + ")", ELEMENT, o -> o.trace(s));
        }
        for (int s : new int[] {-1, 0, 1}) {
            dueRefusedWhenEmpty("trace(" + s + ")", ELEMENT, o -> o.trace(s));
        }
    }

    private static void leastInputs() {
        Check.sentence("a shortest way, of several the one whose INPUTS are least at the first STEP at which they differ.");
        // Both 6 (by 1 then 0) and 9 (by 0 then 3) are two STEPS away: the least first INPUTS win.
        CircuitChecker y = Check.reader("reg a : 4 = 0; input i : 2;"
            + "next a = a == 0 ? (i == 0 ? 1 : i == 1 ? 2 : 0) : a == 1 ? (i == 3 ? 9 : 1) : a == 2 ? (i ? 2 : 6) : a;"
            + "spec s = { a == 6 || a == 9 }; spec t = { a == 6 }; spec never = { a == 15 };");
        y.go(6);
        Check.due("two STEPS", y.trace(0), 2);
        Check.due("INPUTS", y.step(0, 1) * 10 + y.step(1, 1), 3);
        Check.due("STATES", y.step(0, 0) * 100 + y.step(1, 0) * 10 + y.step(2, 0), 19);
        Check.due("the other", y.trace(1), 2);
        Check.due("INPUTS", y.step(0, 1) * 10 + y.step(1, 1), 10);
        Check.due("STATES", y.step(0, 0) * 100 + y.step(1, 0) * 10 + y.step(2, 0), 26);
        // 3 is come to by way of 2 (INPUTS 0 then 2) and of 1 (INPUTS 1 then 0); then on by 1 alone.
        CircuitChecker z = Check.reader("reg a : 3 = 0; input i : 2; next a = a == 0 ? (i == 0 ? 2 : i == 1 ? 1 : 0)"
            + ": a == 2 ? (i >= 2 ? 3 : 2) : a == 1 ? 3 : a == 3 ? (i == 1 ? 4 : 3) : a; spec s = { a == 4 };");
        Check.due("three STEPS", z.trace(0), 3);
        Check.due("INPUTS", z.step(0, 1) * 100 + z.step(1, 1) * 10 + z.step(2, 1), 21);
        Check.due("STATES", z.step(1, 0) * 100 + z.step(2, 0) * 10 + z.step(3, 0), 234);
        CircuitChecker all = Check.reader("reg a : 2 = 0; input i : 3; next a = a + 1; spec s = { a == 3 };");
        Check.due("any INPUTS", all.trace(0), 3);
        Check.due("the least of all", all.step(0, 1) + all.step(1, 1) + all.step(2, 1), 0);
        CircuitChecker last = Check.reader("reg a : 1 = 0; input i : 3; next a = i == 7; spec s = { a };");
        last.trace(0);
        Check.due("only the last INPUTS", last.step(0, 1), 7);
    }

    private static void step() {
        Check.sentence("what 0 the STATE before STEP i (from 0; one more than there are STEPS: the last STATE)");
        CircuitChecker x = Check.reader(COUNTER);
        x.trace(0);
        Check.due("step(0, 0)", x.step(0, 0), 1);
        Check.due("step(1, 0)", x.step(1, 0), 2);
        Check.due("step(2, 0)", x.step(2, 0), 3);
        x.tick(0);
        x.go(0);
        Check.due("step(0, 0), wherever the circuit is", x.step(0, 0), 1);
    }

    private static void inputsOfSteps() {
        Check.sentence("1 the INPUTS of STEP i.");
        CircuitChecker y = Check.reader("reg a : 2 = 0; input i : 3; next a = a == 0 ? i == 5 : i == 6 ? 2 : a; spec s = {a == 2};");
        Check.due("trace(0)", y.trace(0), 2);
        Check.due("step(0, 1)", y.step(0, 1), 5);
        Check.due("step(1, 1)", y.step(1, 1), 6);
    }

    private static void noStep() {
        Check.sentence("NoSuchElementException, first: there is none.");
        for (int what : new int[] {0, 1, 2, -1, MIN, MAX}) {
            for (int i : new int[] {-1, 3, 4, 255, 256, MIN, MAX}) {
                dueRefused("step(" + i + ", " + what + ")", ELEMENT, o -> o.step(i, what));
            }
            dueRefusedWhenEmpty("step(0, " + what + ")", ELEMENT, o -> o.step(0, what));
            CircuitChecker none = Check.reader(COUNTER);
            Check.dueThrow("step(0, " + what + ") without a TRACE", ELEMENT, () -> none.step(0, what));
        }
        dueRefused("step(2, 1)", ELEMENT, o -> o.step(2, 1));
        CircuitChecker x = busy();
        x.trace(1);
        Check.dueThrow("step(1, 0) of a shorter TRACE", ELEMENT, () -> x.step(1, 0));
        Check.dueThrow("step(0, 1) of no STEPS", ELEMENT, () -> x.step(0, 1));
    }

    private static void otherSteps() {
        Check.sentence("IllegalArgumentException: another what.");
        for (int what : new int[] {2, -1, 3, 256, MIN, MAX}) {
            dueRefused("step(0, " + what + ")", ARGUMENT, o -> o.step(0, what));
            dueRefused("step(1, " + what + ")", ARGUMENT, o -> o.step(1, what));
            // There is a STATE at 2, so only the what is wrong.
            dueRefused("step(2, " + what + ")", ARGUMENT, o -> o.step(2, what));
        }
    }

    private static void tick() {
        Check.sentence("The circuit makes a STEP with INPUTS from the STATE in which it is: its STATE then.");
        CircuitChecker x = Check.reader(COUNTER);
        Check.due("tick(1)", x.tick(1), 2);
        Check.due("count(6)", x.count(6), 2);
        Check.due("tick(0)", x.tick(0), 2);
        Check.due("tick(1)", x.tick(1), 3);
        Check.due("tick(1): modulo its bits", x.tick(1), 0);
        x.go(2);
        Check.due("tick(1) from another STATE", x.tick(1), 3);
        x.trace(0);
        x.tick(1);
        Check.due("the TRACE stays", x.count(7), 2);
        CircuitChecker z = Check.reader("input i : 2; reg a : 4 = 0; input j : 1; next a = i + j * 8;");
        Check.due("tick(7)", z.tick(7), 11);
        Check.due("tick(6)", z.tick(6), 3);
        Check.due("tick(1)", z.tick(1), 8);
        Check.due("tick(0)", z.tick(0), 0);
    }

    private static void tickNoInputs() {
        Check.sentence("IllegalArgumentException: no such INPUTS.");
        for (int inputs : new int[] {-1, 2, 3, 8, MIN, MAX}) {
            dueRefused("tick(" + inputs + ")", ARGUMENT, o -> o.tick(inputs));
        }
        for (int inputs : new int[] {-1, 1, 2, MIN, MAX}) {
            dueRefusedWhenEmpty("tick(" + inputs + ")", ARGUMENT, o -> o.tick(inputs));
        }
        CircuitChecker z = Check.reader("input i : 2; reg a : 4 = 0; input j : 1; next a = i + j * 8;");
        Check.dueThrow("tick(8)", ARGUMENT, () -> z.tick(8));
        CircuitChecker none = Check.reader("reg a : 8 = 0;");
        Check.dueThrow("tick(1) without inputs", ARGUMENT, () -> none.tick(1));
        Check.due("tick(0) without inputs", none.tick(0), 0);
    }

    private static void go() {
        Check.sentence("The circuit is in a STATE: the one in which it was.");
        CircuitChecker x = Check.reader(COUNTER);
        Check.due("go(3)", x.go(3), 1);
        Check.due("count(6)", x.count(6), 3);
        Check.due("go(0)", x.go(0), 3);
        Check.due("go(0) again", x.go(0), 0);
        x.tick(1);
        Check.due("go(2) after a STEP", x.go(2), 1);
        x.trace(0);
        x.go(1);
        Check.due("the TRACE stays", x.count(7), 2);
        CircuitChecker y = Check.reader("reg a : 8 = 0;");
        Check.due("go(255)", y.go(255), 0);
        Check.due("and stay", y.tick(0), 255);
        Check.due("a STATE that can't be come to", y.go(77), 255);
    }

    private static void goNoState() {
        Check.sentence("IllegalArgumentException: there is none.");
        for (int state : new int[] {-1, 4, 5, 256, MIN, MAX}) {
            dueRefused("go(" + state + ")", ARGUMENT, o -> o.go(state));
        }
        for (int state : new int[] {-1, 1, MIN, MAX}) {
            dueRefusedWhenEmpty("go(" + state + ")", ARGUMENT, o -> o.go(state));
        }
        CircuitChecker y = Check.reader("reg a : 8 = 77;");
        Check.dueThrow("go(256)", ARGUMENT, () -> y.go(256));
        Check.due("it is where it was", y.count(6), 77);
    }

    private static void value() {
        Check.sentence("What NAME n (of regs, inputs, wires, specs, as they are declared, from 0) is in the STATE in which the"
            + " circuit is, with these INPUTS");
        CircuitChecker x = Check.reader(COUNTER);
        int[] due = {1, 0, 1, 0, 1, 0, 0};
        int[] dueWithOne = {1, 1, 2, 0, 1, 0, 0};
        int[] dueLast = {3, 1, 4, 1, 1, 1, 0};
        for (int n = 0; n < due.length; n++) {
            Check.due("value(" + n + ", 0)", x.value(n, 0), due[n]);
            Check.due("value(" + n + ", 1)", x.value(n, 1), dueWithOne[n]);
        }
        x.go(3);
        for (int n = 0; n < due.length; n++) {
            Check.due("value(" + n + ", 1) at 3", x.value(n, 1), dueLast[n]);
        }
        CircuitChecker y = Check.reader("reg a : 3 = 5; input i : 2; wire v = ~a; reg b : 2 = 2; input j : 1; wire w = v + i;");
        int[] dueMixed = {5, 2, 250, 2, 1, 252};
        for (int n = 0; n < dueMixed.length; n++) {
            Check.due("value(" + n + ", 5)", y.value(n, 5), dueMixed[n]);
        }
    }

    private static void valueOfSpecs() {
        Check.sentence("(of a spec: 1 if it is so; INPUTS matter for inputs and wires alone)");
        CircuitChecker z = Check.reader("reg a : 1 = 1; input i : 1; spec s = { a }; spec t = { i }; spec u = EX { a }; next a = i;");
        for (int inputs = 0; inputs < 2; inputs++) {
            Check.due("the reg with " + inputs, z.value(0, inputs), 1);
            Check.due("the input with " + inputs, z.value(1, inputs), inputs);
            Check.due("s with " + inputs, z.value(2, inputs), 1);
            Check.due("t with " + inputs, z.value(3, inputs), 0);
            Check.due("u with " + inputs, z.value(4, inputs), 1);
        }
        z.tick(0);
        Check.due("s after a STEP", z.value(2, 1), 0);
        Check.due("holds is of the FIRST STATE still", z.holds(0), true);
    }

    private static void valueNoName() {
        Check.sentence("NoSuchElementException, first: there is none.");
        for (int n : new int[] {-1, 7, 8, 60, MIN, MAX}) {
            for (int inputs : new int[] {0, 1, 2, -1, MIN, MAX}) {
                dueRefused("value(" + n + ", " + inputs + ")", ELEMENT, o -> o.value(n, inputs));
            }
        }
        for (int n : new int[] {-1, 0, 1}) {
            dueRefusedWhenEmpty("value(" + n + ", 0)", ELEMENT, o -> o.value(n, 0));
            dueRefusedWhenEmpty("value(" + n + ", 1)", ELEMENT, o -> o.value(n, 1));
        }
    }

    private static void valueNoInputs() {
        Check.sentence("IllegalArgumentException: no such INPUTS.");
        for (int n = 0; n < 7; n++) {
            for (int inputs : new int[] {2, -1, 8, MIN, MAX}) {
                int name = n;
                dueRefused("value(" + n + ", " + inputs + ")", ARGUMENT, o -> o.value(name, inputs));
            }
        }
        CircuitChecker none = Check.reader("reg a : 8 = 200; wire w = a; spec s = {a};");
        for (int n = 0; n < 3; n++) {
            int name = n;
            Check.due("value(" + n + ", 0) without inputs", none.value(n, 0), n == 2 ? 1 : 200);
            Check.dueThrow("value(" + n + ", 1) without inputs", ARGUMENT, () -> none.value(name, 1));
        }
    }

    private static void count() {
        Check.sentence("0 specs; 1 NAMES; 2 bits of the regs; 3 of the inputs; 4 COSTS; 5 the TAPE's length; 6 the STATE in which"
            + " the circuit is; 7 STEPS of the TRACE.");
        CircuitChecker x = Check.reader(COUNTER);
        int[] dueFirst = {4, 7, 2, 1, 8 + 96 + 8 + 32 + 8 + 96, 0, 1, 0};
        for (int what = 0; what < dueFirst.length; what++) {
            Check.due("count(" + what + ")", x.count(what), dueFirst[what]);
        }
        x.feed(0, 0, 0, 0, 0);
        x.tick(1);
        x.trace(0);
        int[] due = {4, 7, 2, 1, 8 + 96 + 8 + 32 + 8 + 96, 20, 2, 2};
        for (int what = 0; what < due.length; what++) {
            Check.due("count(" + what + ") later", x.count(what), due[what]);
        }
        CircuitChecker full = Check.reader("reg a : 3 = 7; reg b : 5 = 31; input i : 1; input j : 2;");
        int[] dueFull = {0, 4, 8, 3, 0, 0, 255, 0};
        for (int what = 0; what < dueFull.length; what++) {
            Check.due("count(" + what + ") of a full one", full.count(what), dueFull[what]);
        }
    }

    private static void otherCounts() {
        Check.sentence("Else -1.");
        for (int what : new int[] {-1, 8, 9, 256, MIN, MAX}) {
            Check.due("count(" + what + ")", busy().count(what), -1);
            Check.due("count(" + what + ") of a new object", new CircuitChecker().count(what), -1);
        }
    }
}
