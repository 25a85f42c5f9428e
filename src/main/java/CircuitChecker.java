import java.util.Arrays;
import java.util.NoSuchElementException;

/** A checker of circuits: it reads a text, works out its formulas for all states at once, and runs it. */
public final class CircuitChecker {
    private static final int MOST_BYTES = 65536;
    private static final int BYTES_OF_A_FEED = 20;
    private static final int MOST_TOKENS = 4000;
    private static final int MOST_WORD_BYTES = 31;
    private static final int MOST_DIGITS = 9;
    private static final int MOST_NAMES = 60;
    private static final int MOST_SPECS = 30;
    private static final int MOST_REG_BITS = 8;
    private static final int MOST_INPUT_BITS = 3;
    private static final int MOST_VALUE = 255;
    private static final int MOST_DEPTH = 40;
    private static final int MOST_COSTS = 3000;
    private static final int MOST_STATES = 256;
    /** A case is a STATE with INPUTS; its number is the STATE's bits and behind them those of the INPUTS. */
    private static final int MOST_CASES = 2048;

    private static final int NO_FAULT = 0;
    private static final int OUT_OF_PLACE = 1;
    private static final int WRONG_NAME = 2;
    private static final int OUT_OF_RANGE = 3;
    private static final int TOO_MUCH = 4;

    /** A sign's kind is its place here or, behind all of these, the place of its pair in DOUBLES. */
    private static final String SINGLES = ";:=?()[]{}<>+-*&|^~!";
    private static final String DOUBLES = "==!=<=>=<<>>&&||->";
    private static final int SEMICOLON = 0;
    private static final int COLON = 1;
    private static final int BECOMES = 2;
    private static final int ASKS = 3;
    private static final int OPEN = 4;
    private static final int CLOSE = 5;
    private static final int OPEN_UNTIL = 6;
    private static final int CLOSE_UNTIL = 7;
    private static final int OPEN_TEST = 8;
    private static final int CLOSE_TEST = 9;
    private static final int LESS = 10;
    private static final int MORE = 11;
    private static final int PLUS = 12;
    private static final int MINUS = 13;
    private static final int TIMES = 14;
    private static final int BOTH_BITS = 15;
    private static final int EITHER_BITS = 16;
    private static final int UNLIKE_BITS = 17;
    private static final int TURN_BITS = 18;
    private static final int NOT = 19;
    private static final int SAME = 20;
    private static final int OTHER = 21;
    private static final int AT_MOST = 22;
    private static final int AT_LEAST = 23;
    private static final int LEFT = 24;
    private static final int RIGHT = 25;
    private static final int AND = 26;
    private static final int OR = 27;
    private static final int IMPLIES = 28;
    private static final int REG = 29;
    private static final int INPUT = 30;
    private static final int WIRE = 31;
    private static final int NEXT = 32;
    private static final int SPEC = 33;
    private static final int ALL = 34;
    private static final int SOME = 35;
    private static final int UNTIL = 36;
    private static final int AX = 37;
    private static final int EX = 38;
    private static final int AF = 39;
    private static final int EF = 40;
    private static final int AG = 41;
    private static final int EG = 42;
    private static final int NAME = 43;
    private static final int NUMBER = 44;
    private static final int END = 45;
    /** Bytes that are no WORD, NUMBER or sign, or one that is too long. */
    private static final int NOTHING = 46;
    /** What stands behind the last WORD, NUMBER or sign for which there is room. */
    private static final int OVER = 47;
    /** No grammar takes this kind, so that reading runs out by itself once a FAULT is found. */
    private static final int HALTED = 48;

    /** Orders that no sign or word stands for alone; those of formulas begin with TEST. */
    private static final int NEGATE = 49;
    private static final int CHOOSE = 50;
    private static final int TEST = 51;
    private static final int CLAIM_NAMED = 52;
    private static final int CLAIM_NOT = 53;
    private static final int CLAIM_AND = 54;
    private static final int CLAIM_OR = 55;
    private static final int CLAIM_IMPLIES = 56;

    /** How tight each sign binds two operands, by its kind; 0: it does not. */
    private static final int[] TIGHTNESS = {
        0, 0, 0, 0, 0, 0, 0, 0, 0, 0, 7, 7, 9, 9, 10, 5, 3, 4, 0, 0, 6, 6, 7, 7, 8, 8, 2, 1, 0
    };
    /** What each sign of an EXPRESSION costs, by its kind. */
    private static final int[] COST = {
        0, 0, 0, 40, 0, 0, 0, 0, 8, 0, 96, 96, 96, 96, 900, 24, 24, 24, 0, 24, 32, 32, 96, 96, 128, 128, 24, 24, 0
    };
    private static final int COST_OF_NEXT = 8;

    private final Tape tape;
    private final Circuit circuit;
    private final TextReader reader;
    private final Values values;
    private final Steps steps;
    private final Claims claims;
    private final Trace shortest;
    private int state;

    public CircuitChecker() {
        tape = new Tape();
        circuit = new Circuit();
        reader = new TextReader(tape, circuit);
        values = new Values(circuit);
        steps = new Steps(circuit);
        claims = new Claims(steps);
        shortest = new Trace();
        workOut();
    }

    public int feed(int a, int b, int c, int d, int e) throws IllegalStateException {
        if (tape.length > MOST_BYTES - BYTES_OF_A_FEED) {
            throw new IllegalStateException();
        }
        tape.add(a);
        tape.add(b);
        tape.add(c);
        tape.add(d);
        tape.add(e);
        return tape.length;
    }

    public int end(int n) throws IllegalArgumentException {
        if (n < 0 || n > tape.length) {
            throw new IllegalArgumentException();
        }
        tape.length = n;
        return n;
    }

    public int read() {
        reader.readTape();
        if (reader.found != NO_FAULT) {
            circuit.clear();
        }
        tape.length = 0;
        workOut();
        return reader.found == NO_FAULT ? circuit.specs : -1;
    }

    public int fault(int what) {
        if (what == 0) {
            return reader.found;
        }
        return what == 1 ? reader.place : -1;
    }

    public boolean holds(int s) throws NoSuchElementException {
        if (!isSpec(s)) {
            throw new NoSuchElementException();
        }
        return claims.isSo(s, circuit.first);
    }

    public int states(int s) throws NoSuchElementException {
        if (!isSpec(s)) {
            throw new NoSuchElementException();
        }
        return claims.sizeOf(s);
    }

    public boolean at(int s, int state) throws NoSuchElementException {
        if (!isSpec(s) || !isState(state)) {
            throw new NoSuchElementException();
        }
        return claims.isSo(s, state);
    }

    public int reachable() {
        return steps.met;
    }

    public int trace(int s) throws NoSuchElementException {
        if (!isSpec(s)) {
            throw new NoSuchElementException();
        }
        int goal = firstMet(s);
        if (goal < 0) {
            return -1;
        }
        shortest.lead(steps, goal);
        return shortest.length;
    }

    public int step(int i, int what) throws NoSuchElementException, IllegalArgumentException {
        boolean noInputs = what == 1 && i == shortest.length;
        if (!shortest.there || i < 0 || i > shortest.length || noInputs) {
            throw new NoSuchElementException();
        }
        if (what != 0 && what != 1) {
            throw new IllegalArgumentException();
        }
        return what == 0 ? shortest.state[i] : shortest.inputs[i];
    }

    public int tick(int inputs) throws IllegalArgumentException {
        if (!areInputs(inputs)) {
            throw new IllegalArgumentException();
        }
        state = steps.next[steps.caseOf(state, inputs)];
        return state;
    }

    public int go(int state) throws IllegalArgumentException {
        if (!isState(state)) {
            throw new IllegalArgumentException();
        }
        int before = this.state;
        this.state = state;
        return before;
    }

    public int value(int n, int inputs) throws NoSuchElementException, IllegalArgumentException {
        if (n < 0 || n >= circuit.names) {
            throw new NoSuchElementException();
        }
        if (!areInputs(inputs)) {
            throw new IllegalArgumentException();
        }
        if (circuit.kind[n] == SPEC) {
            return claims.isSo(circuit.part[n], state) ? 1 : 0;
        }
        return values.ofName(n, steps.caseOf(state, inputs));
    }

    public int count(int what) {
        switch (what) {
            case 0: return circuit.specs;
            case 1: return circuit.names;
            case 2: return circuit.regBits;
            case 3: return circuit.inputBits;
            case 4: return circuit.costs;
            case 5: return tape.length;
            case 6: return state;
            case 7: return shortest.length;
            default: return -1;
        }
    }

    private boolean isSpec(int s) {
        return s >= 0 && s < circuit.specs;
    }

    private boolean isState(int number) {
        return number >= 0 && number < steps.stateCount;
    }

    private boolean areInputs(int number) {
        return number >= 0 && number < steps.choices;
    }

    /** STATES are met in the order of their distance and then of the INPUTS that lead there. */
    private int firstMet(int spec) {
        for (int k = 0; k < steps.met; k++) {
            if (claims.isSo(spec, steps.order[k])) {
                return steps.order[k];
            }
        }
        return -1;
    }

    /** Formulas come last: a next may stand behind the spec that asks what comes of it. */
    private void workOut() {
        steps.begin();
        values.begin();
        perform(circuit.logic);
        steps.finish();
        claims.begin();
        perform(circuit.formulas);
        state = circuit.first;
        shortest.forget();
    }

    private void perform(Code code) {
        for (int i = 0; i < code.length; i++) {
            int order = code.orders[i];
            int about = code.abouts[i];
            if (order == NEXT) {
                steps.change(about, values);
            } else if (order == TEST) {
                claims.test(values);
            } else if (order > TEST || (order >= SPEC && order <= EG)) {
                claims.perform(order, about);
            } else {
                values.perform(order, about);
            }
        }
    }

    /** The bytes that feed gathers. */
    private static final class Tape {
        private final byte[] bytes = new byte[MOST_BYTES];
        private int length;

        void add(int four) {
            for (int shift = 24; shift >= 0 && length < MOST_BYTES; shift -= 8) {
                bytes[length] = (byte) (four >>> shift);
                length++;
            }
        }

        /** 0, which can stand in no TEXT, where there is no byte. */
        int byteAt(int place) {
            return place >= 0 && place < length ? bytes[place] & 255 : 0;
        }
    }

    /** Orders to be carried out one after the other, operands first. */
    private static final class Code {
        private final int[] orders = new int[MOST_TOKENS];
        private final int[] abouts = new int[MOST_TOKENS];
        private int length;

        void add(int order, int about) {
            if (length < MOST_TOKENS) {
                orders[length] = order;
                abouts[length] = about;
                length++;
            }
        }
    }

    /** What a TEXT says, without its names. */
    private static final class Circuit {
        private final int[] kind = new int[MOST_NAMES];
        private final int[] bits = new int[MOST_NAMES];
        /** Of a reg or input: the bits up to its last one; of a spec: its number. */
        private final int[] part = new int[MOST_NAMES];
        private final Code logic = new Code();
        private final Code formulas = new Code();
        private int names;
        private int specs;
        private int regBits;
        private int inputBits;
        private int costs;
        private int first;

        void clear() {
            names = 0;
            specs = 0;
            regBits = 0;
            inputBits = 0;
            costs = 0;
            first = 0;
            logic.length = 0;
            formulas.length = 0;
        }

        void addReg(int width, int firstValue) {
            regBits += width;
            first = (first << width) | firstValue;
            addName(REG, width, regBits);
        }

        void addInput(int width) {
            inputBits += width;
            addName(INPUT, width, inputBits);
        }

        void addWire() {
            addName(WIRE, 0, 0);
        }

        void addSpec() {
            addName(SPEC, 0, specs);
            specs++;
        }

        private void addName(int itsKind, int itsBits, int itsPart) {
            if (names < MOST_NAMES) {
                kind[names] = itsKind;
                bits[names] = itsBits;
                part[names] = itsPart;
                names++;
            }
        }

        /** How many bits stand behind those of a reg in a STATE's number. */
        int bitsBehindReg(int name) {
            return regBits - part[name];
        }

        /** How many bits stand behind those of a reg or input in a case's number. */
        int bitsBehind(int name) {
            return kind[name] == REG ? bitsBehindReg(name) + inputBits : inputBits - part[name];
        }
    }

    /** The TAPE parted into WORDS, NUMBERS and signs; behind them stands the end, or what stops the reading. */
    private static final class Tokens {
        private final Tape tape;
        private final int[] kind = new int[MOST_TOKENS + 1];
        private final int[] from = new int[MOST_TOKENS + 1];
        private final int[] size = new int[MOST_TOKENS + 1];
        private final int[] number = new int[MOST_TOKENS + 1];
        private int length;
        private int behind;

        Tokens(Tape tape) {
            this.tape = tape;
        }

        void part() {
            behind = 0;
            length = 0;
            boolean more = true;
            for (int n = 0; n <= MOST_TOKENS && more; n++) {
                skipBlanks();
                from[n] = behind;
                kind[n] = scan(n);
                size[n] = behind - from[n];
                length = n + 1;
                more = kind[n] < END;
            }
        }

        private void skipBlanks() {
            boolean remark = false;
            for (; behind < tape.length; behind++) {
                int b = tape.byteAt(behind);
                if (remark) {
                    remark = b != 10;
                } else if (b == '#') {
                    remark = true;
                } else if (b != 32 && b != 9 && b != 10 && b != 13) {
                    return;
                }
            }
        }

        private int scan(int n) {
            if (behind >= tape.length) {
                return END;
            }
            if (n >= MOST_TOKENS) {
                return OVER;
            }
            int b = tape.byteAt(behind);
            if (isLetter(b)) {
                return scanWord();
            }
            return isDigit(b) ? scanNumber(n) : scanSign(b);
        }

        private int scanWord() {
            int first = behind;
            while (behind < tape.length && isOfWord(tape.byteAt(behind))) {
                behind++;
            }
            int bytes = behind - first;
            if (bytes > MOST_WORD_BYTES) {
                return NOTHING;
            }
            return bytes > 2 ? kindOfLongWord(first, bytes) : kindOfShortWord(first, bytes);
        }

        private int scanNumber(int n) {
            int first = behind;
            int worth = 0;
            while (behind < tape.length && isDigit(tape.byteAt(behind))) {
                worth = worth * 10 + tape.byteAt(behind) - '0';
                behind++;
            }
            number[n] = worth;
            return behind - first > MOST_DIGITS ? NOTHING : NUMBER;
        }

        private int scanSign(int b) {
            int next = tape.byteAt(behind + 1);
            for (int i = 0; i + 1 < DOUBLES.length(); i += 2) {
                if (DOUBLES.charAt(i) == b && DOUBLES.charAt(i + 1) == next) {
                    behind += 2;
                    return SINGLES.length() + i / 2;
                }
            }
            behind++;
            int single = SINGLES.indexOf((char) b);
            return single < 0 ? NOTHING : single;
        }

        private int kindOfShortWord(int first, int bytes) {
            int one = tape.byteAt(first);
            if (bytes == 1) {
                return one == 'A' ? ALL : one == 'E' ? SOME : one == 'U' ? UNTIL : NAME;
            }
            if (one != 'A' && one != 'E') {
                return NAME;
            }
            switch (tape.byteAt(first + 1)) {
                case 'X': return one == 'A' ? AX : EX;
                case 'F': return one == 'A' ? AF : EF;
                case 'G': return one == 'A' ? AG : EG;
                default: return NAME;
            }
        }

        private int kindOfLongWord(int first, int bytes) {
            if (isWord("reg", first, bytes)) {
                return REG;
            }
            if (isWord("input", first, bytes)) {
                return INPUT;
            }
            if (isWord("wire", first, bytes)) {
                return WIRE;
            }
            if (isWord("next", first, bytes)) {
                return NEXT;
            }
            return isWord("spec", first, bytes) ? SPEC : NAME;
        }

        private boolean isWord(String word, int first, int bytes) {
            if (bytes != word.length()) {
                return false;
            }
            for (int i = 0; i < bytes; i++) {
                if (tape.byteAt(first + i) != word.charAt(i)) {
                    return false;
                }
            }
            return true;
        }

        /** Whether two WORDS have the same bytes; both were parted from the TAPE, so none lies beyond it. */
        boolean areSame(int a, int b) {
            boolean same = size[a] == size[b];
            for (int i = 0; i < size[a] && same; i++) {
                same = tape.bytes[from[a] + i] == tape.bytes[from[b] + i];
            }
            return same;
        }

        private static boolean isOfWord(int b) {
            return isLetter(b) || isDigit(b) || b == '_';
        }

        private static boolean isLetter(int b) {
            return (b >= 'a' && b <= 'z') || (b >= 'A' && b <= 'Z');
        }

        private static boolean isDigit(int b) {
            return b >= '0' && b <= '9';
        }
    }

    /** Reads the TAPE by the grammar into a circuit, up to the first FAULT. */
    private static final class TextReader {
        private final Circuit circuit;
        private final Tokens tokens;
        /** The WORD, NUMBER or sign that is looked at, and its kind. */
        private int now;
        private int kind;
        /** Of each NAME, the WORD that declares it. */
        private final int[] declaredBy = new int[MOST_NAMES];
        private final int[] hasNext = new int[MOST_NAMES];
        /** Signs whose second operand is not at its end; each costs 24 or more, which keeps them few. */
        private final int[] waiting = new int[MOST_COSTS / 24];
        private int waitingCount;
        private Code code;
        private int found;
        private int place;

        TextReader(Tape tape, Circuit circuit) {
            this.circuit = circuit;
            tokens = new Tokens(tape);
            code = circuit.logic;
        }

        void readTape() {
            begin();
            tokens.part();
            kind = tokens.kind[0];
            for (int lines = 0; lines <= MOST_TOKENS && found == NO_FAULT && kind != END; lines++) {
                switch (kind) {
                    case REG: readReg(); break;
                    case INPUT: readInput(); break;
                    case WIRE: readWire(); break;
                    case NEXT: readNext(); break;
                    case SPEC: readSpec(); break;
                    default: refuse();
                }
            }
        }

        private void begin() {
            circuit.clear();
            Arrays.fill(hasNext, 0);
            waitingCount = 0;
            found = NO_FAULT;
            place = 0;
            now = 0;
        }

        private void advance() {
            if (kind != HALTED && now + 1 < tokens.length) {
                now++;
                kind = tokens.kind[now];
            }
        }

        private void readReg() {
            readNewName();
            expect(COLON);
            int bits = readNumber(1, MOST_REG_BITS - circuit.regBits);
            expect(BECOMES);
            int first = readNumber(0, (1 << bits) - 1);
            if (expect(SEMICOLON)) {
                circuit.addReg(bits, first);
            }
        }

        private void readInput() {
            readNewName();
            expect(COLON);
            int bits = readNumber(1, MOST_INPUT_BITS - circuit.inputBits);
            if (expect(SEMICOLON)) {
                circuit.addInput(bits);
            }
        }

        private void readWire() {
            readNewName();
            expect(BECOMES);
            code = circuit.logic;
            readExpression(0);
            if (expect(SEMICOLON)) {
                code.add(WIRE, circuit.names);
                circuit.addWire();
            }
        }

        private void readNext() {
            charge(COST_OF_NEXT);
            advance();
            int reg = readRegWithoutNext();
            expect(BECOMES);
            code = circuit.logic;
            readExpression(0);
            if (expect(SEMICOLON)) {
                code.add(NEXT, reg);
            }
        }

        private void readSpec() {
            if (circuit.specs >= MOST_SPECS) {
                halt(TOO_MUCH);
            }
            readNewName();
            expect(BECOMES);
            code = circuit.formulas;
            readFormula(0);
            if (expect(SEMICOLON)) {
                code.add(SPEC, circuit.specs);
                circuit.addSpec();
            }
        }

        /** Passes the word of a line and the NAME behind it, which is not known before the line's end. */
        private void readNewName() {
            advance();
            int name = circuit.names;
            if (kind != NAME) {
                refuse();
            } else if (findName() >= 0) {
                halt(WRONG_NAME);
            } else if (name >= MOST_NAMES) {
                halt(TOO_MUCH);
            } else {
                declaredBy[name] = now;
                advance();
            }
        }

        private int readRegWithoutNext() {
            if (kind != NAME) {
                refuse();
                return 0;
            }
            int name = findName();
            if (name < 0 || circuit.kind[name] != REG || hasNext[name] != 0) {
                halt(WRONG_NAME);
                return 0;
            }
            hasNext[name] = 1;
            advance();
            return name;
        }

        private int readNumber(int least, int most) {
            if (kind != NUMBER) {
                refuse();
                return 0;
            }
            int number = tokens.number[now];
            if (number < least || number > most) {
                halt(OUT_OF_RANGE);
                return 0;
            }
            advance();
            return number;
        }

        private void readExpression(int depth) {
            if (isTooDeep(depth)) {
                return;
            }
            readOperands(depth);
            if (kind == ASKS) {
                chargeSign();
                advance();
                readExpression(depth + 1);
                expect(COLON);
                readExpression(depth + 1);
                code.add(CHOOSE, 0);
            }
        }

        private void readOperands(int depth) {
            int before = waitingCount;
            readUnary(depth);
            for (int signs = 0; signs <= MOST_TOKENS && tightness(kind) > 0; signs++) {
                settle(before, tightness(kind));
                await(kind);
                chargeSign();
                advance();
                readUnary(depth);
            }
            settle(before, 1);
        }

        private void await(int sign) {
            if (waitingCount < waiting.length) {
                waiting[waitingCount] = sign;
                waitingCount++;
            }
        }

        /** Of the signs that wait, the last ones that bind so tight or tighter have both operands now. */
        private void settle(int before, int tight) {
            while (waitingCount > before && tightness(waiting[waitingCount - 1]) >= tight) {
                waitingCount--;
                code.add(waiting[waitingCount], 0);
            }
        }

        private static int tightness(int kind) {
            return kind >= 0 && kind < TIGHTNESS.length ? TIGHTNESS[kind] : 0;
        }

        private void readUnary(int depth) {
            if (isTooDeep(depth)) {
                return;
            }
            switch (kind) {
                case MINUS: readAltered(NEGATE, depth); break;
                case TURN_BITS: readAltered(TURN_BITS, depth); break;
                case NOT: readAltered(NOT, depth); break;
                case OPEN:
                    advance();
                    readExpression(depth + 1);
                    expect(CLOSE);
                    break;
                case NUMBER: code.add(NUMBER, readNumber(0, MOST_VALUE)); break;
                case NAME: readKnownName(false); break;
                default: refuse();
            }
        }

        private void readAltered(int order, int depth) {
            chargeSign();
            advance();
            readUnary(depth + 1);
            code.add(order, 0);
        }

        private void readKnownName(boolean ofSpec) {
            int name = findName();
            if (name < 0 || (circuit.kind[name] == SPEC) != ofSpec) {
                halt(WRONG_NAME);
                return;
            }
            if (ofSpec) {
                code.add(CLAIM_NAMED, circuit.part[name]);
            } else {
                code.add(NAME, name);
            }
            advance();
        }

        private void readFormula(int depth) {
            if (isTooDeep(depth)) {
                return;
            }
            readEither(depth);
            if (kind == IMPLIES) {
                advance();
                readFormula(depth + 1);
                code.add(CLAIM_IMPLIES, 0);
            }
        }

        private void readEither(int depth) {
            readBoth(depth);
            for (int signs = 0; signs <= MOST_TOKENS && kind == OR; signs++) {
                advance();
                readBoth(depth);
                code.add(CLAIM_OR, 0);
            }
        }

        private void readBoth(int depth) {
            readSingle(depth);
            for (int signs = 0; signs <= MOST_TOKENS && kind == AND; signs++) {
                advance();
                readSingle(depth);
                code.add(CLAIM_AND, 0);
            }
        }

        private void readSingle(int depth) {
            if (isTooDeep(depth)) {
                return;
            }
            if (kind == NOT) {
                readAlteredSingle(CLAIM_NOT, depth);
            } else if (kind >= AX && kind <= EG) {
                readAlteredSingle(kind, depth);
            } else if (kind == ALL || kind == SOME) {
                readUntil(kind, depth);
            } else if (kind == OPEN) {
                advance();
                readFormula(depth + 1);
                expect(CLOSE);
            } else if (kind == OPEN_TEST) {
                chargeSign();
                advance();
                readExpression(depth + 1);
                expect(CLOSE_TEST);
                code.add(TEST, 0);
            } else if (kind == NAME) {
                readKnownName(true);
            } else {
                refuse();
            }
        }

        private void readAlteredSingle(int order, int depth) {
            advance();
            readSingle(depth + 1);
            code.add(order, 0);
        }

        private void readUntil(int order, int depth) {
            advance();
            expect(OPEN_UNTIL);
            readFormula(depth + 1);
            expect(UNTIL);
            readFormula(depth + 1);
            expect(CLOSE_UNTIL);
            code.add(order, 0);
        }

        private boolean isTooDeep(int depth) {
            if (depth > MOST_DEPTH) {
                halt(TOO_MUCH);
            }
            return depth > MOST_DEPTH;
        }

        private void chargeSign() {
            charge(kind >= 0 && kind < COST.length ? COST[kind] : 0);
        }

        private void charge(int cost) {
            circuit.costs += cost;
            if (circuit.costs > MOST_COSTS) {
                halt(TOO_MUCH);
            }
        }

        private boolean expect(int wanted) {
            if (kind != wanted) {
                refuse();
                return false;
            }
            advance();
            return true;
        }

        private void refuse() {
            halt(kind == OVER ? TOO_MUCH : OUT_OF_PLACE);
        }

        private void halt(int why) {
            if (found == NO_FAULT) {
                found = why;
                place = tokens.from[now];
                kind = HALTED;
            }
        }

        /** The number of the known NAME that stands there, or -1. */
        private int findName() {
            for (int name = 0; name < circuit.names; name++) {
                if (tokens.areSame(declaredBy[name], now)) {
                    return name;
                }
            }
            return -1;
        }
    }

    /** Eight VALUES side by side in a long, worked on at once: no carry may pass from one to the next. */
    private static final class Lanes {
        private static final long ONES = 0x0101010101010101L;
        private static final long TOPS = 0x8080808080808080L;

        static long all(int number) {
            return ONES * number;
        }

        static long join(int sign, long a, long b) {
            switch (sign) {
                case OR: return truth(a | b);
                case AND: return truth(a) & truth(b);
                case EITHER_BITS: return a | b;
                case UNLIKE_BITS: return a ^ b;
                case BOTH_BITS: return a & b;
                case SAME: return not(a ^ b);
                case OTHER: return truth(a ^ b);
                case LESS: return less(a, b);
                case MORE: return less(b, a);
                case AT_MOST: return not(less(b, a));
                case AT_LEAST: return not(less(a, b));
                case LEFT: return shift(true, a, b);
                case RIGHT: return shift(false, a, b);
                case PLUS: return plus(a, b);
                case MINUS: return minus(a, b);
                default: return times(a, b);
            }
        }

        static long alter(int order, long a) {
            if (order == NEGATE) {
                return minus(0, a);
            }
            return order == NOT ? not(a) : ~a;
        }

        static long choose(long test, long a, long b) {
            return pick(truth(test), a, b);
        }

        /** 127 more carries into the top bit unless the seven bits below it are 0. */
        private static long truth(long a) {
            return ((((a & ~TOPS) + ~TOPS) | a) >>> 7) & ONES;
        }

        private static long not(long a) {
            return truth(a) ^ ONES;
        }

        /** a where ones has a 1, else b. */
        private static long pick(long ones, long a, long b) {
            long mask = (ones << 8) - ones;
            return (a & mask) | (b & ~mask);
        }

        /** The top bits are left out of the sum, so that their carry is lost, and put right behind it. */
        private static long plus(long a, long b) {
            return ((a & ~TOPS) + (b & ~TOPS)) ^ ((a ^ b) & TOPS);
        }

        /** Each top bit is lent to the bits below it, so that none borrows from its neighbour. */
        private static long minus(long a, long b) {
            return ((a | TOPS) - (b & ~TOPS)) ^ ((a ^ ~b) & TOPS);
        }

        /** 1 where a - b would borrow beyond its top bit. */
        private static long less(long a, long b) {
            return (((~a & b) | ((~a | b) & minus(a, b))) >>> 7) & ONES;
        }

        /** By 1, 2 and 4 where the bits of b say so; of a move by 8 or more nothing stays. */
        private static long shift(boolean left, long a, long b) {
            long moved = a;
            for (int bit = 0; bit < 3; bit++) {
                int by = 1 << bit;
                long further = left ? (moved << by) & all((255 << by) & 255) : (moved >>> by) & all(255 >>> by);
                moved = pick((b >>> bit) & ONES, further, moved);
            }
            return pick(truth(b & all(248)), 0, moved);
        }

        private static long times(long a, long b) {
            long sum = 0;
            for (int bit = 0; bit < 8; bit++) {
                long part = (a << bit) & all((255 << bit) & 255);
                sum = plus(sum, pick((b >>> bit) & ONES, part, 0));
            }
            return sum;
        }
    }

    /** Works out EXPRESSIONS for all cases at once: a row has the VALUE of each case. */
    private static final class Values {
        private static final int LONGS_OF_A_ROW = MOST_CASES / 8;
        /** COSTS and depth let at most 139 wait: two for each of 40 ? and one for each of 58 signs. */
        private static final int MOST_WAITING = 140;

        private final Circuit circuit;
        /** The rows of the NAMES and, behind them, one for each place of the stack. */
        private final long[] cells = new long[(MOST_NAMES + MOST_WAITING) * LONGS_OF_A_ROW];
        /** Where the row of each operand begins. */
        private final int[] stack = new int[MOST_WAITING];
        private int top;
        private int longs;

        Values(Circuit circuit) {
            this.circuit = circuit;
        }

        void begin() {
            top = 0;
            int caseBits = circuit.regBits + circuit.inputBits;
            longs = caseBits > 3 ? 1 << (caseBits - 3) : 1;
            for (int name = 0; name < circuit.names; name++) {
                if (circuit.kind[name] == REG || circuit.kind[name] == INPUT) {
                    fillRow(name);
                }
            }
        }

        private void fillRow(int name) {
            int row = rowOfName(name);
            int behind = circuit.bitsBehind(name);
            int most = (1 << circuit.bits[name]) - 1;
            for (int i = 0; i < longs; i++) {
                long eight = 0;
                for (int lane = 7; lane >= 0; lane--) {
                    eight = (eight << 8) | (((i * 8 + lane) >> behind) & most);
                }
                cells[row + i] = eight;
            }
        }

        void perform(int order, int about) {
            switch (order) {
                case NUMBER: pushNumber(about); break;
                case NAME: push(rowOfName(about)); break;
                case WIRE: keep(about); break;
                case CHOOSE: choose(); break;
                case NEGATE:
                case NOT:
                case TURN_BITS: alter(order); break;
                default: join(order);
            }
        }

        int ofName(int name, int aCase) {
            return lane(rowOfName(name), aCase);
        }

        /** The VALUE, in a case, of what was worked out last. */
        int ofLast(int aCase) {
            return top > 0 ? lane(stack[top - 1], aCase) : 0;
        }

        void drop() {
            if (top > 0) {
                top--;
            }
        }

        private int lane(int row, int aCase) {
            return (int) (cells[row + (aCase >> 3)] >>> ((aCase & 7) * 8)) & 255;
        }

        private static int rowOfName(int name) {
            return name * LONGS_OF_A_ROW;
        }

        private static int rowOfPlace(int stackPlace) {
            return (MOST_NAMES + stackPlace) * LONGS_OF_A_ROW;
        }

        private void push(int row) {
            if (top < MOST_WAITING) {
                stack[top] = row;
                top++;
            }
        }

        private void pushNumber(int number) {
            if (top < MOST_WAITING) {
                int row = rowOfPlace(top);
                long eight = Lanes.all(number);
                for (int i = 0; i < longs; i++) {
                    cells[row + i] = eight;
                }
                push(row);
            }
        }

        private void keep(int name) {
            if (top > 0) {
                System.arraycopy(cells, stack[top - 1], cells, rowOfName(name), longs);
                drop();
            }
        }

        private void alter(int order) {
            if (top < 1) {
                return;
            }
            int a = stack[top - 1];
            int row = rowOfPlace(top - 1);
            for (int i = 0; i < longs; i++) {
                cells[row + i] = Lanes.alter(order, cells[a + i]);
            }
            stack[top - 1] = row;
        }

        private void join(int sign) {
            if (top < 2) {
                return;
            }
            int a = stack[top - 2];
            int b = stack[top - 1];
            int row = rowOfPlace(top - 2);
            for (int i = 0; i < longs; i++) {
                cells[row + i] = Lanes.join(sign, cells[a + i], cells[b + i]);
            }
            top--;
            stack[top - 1] = row;
        }

        private void choose() {
            if (top < 3) {
                return;
            }
            int test = stack[top - 3];
            int a = stack[top - 2];
            int b = stack[top - 1];
            int row = rowOfPlace(top - 3);
            for (int i = 0; i < longs; i++) {
                cells[row + i] = Lanes.choose(cells[test + i], cells[a + i], cells[b + i]);
            }
            top -= 2;
            stack[top - 1] = row;
        }
    }

    /** All STEPS of the circuit, forwards and backwards, and the STATES in the order in which they are met. */
    private static final class Steps {
        private final Circuit circuit;
        private int stateCount;
        private int choices;
        private int cases;
        /** By case, the STATE to which its STEP leads. */
        private final int[] next = new int[MOST_CASES];
        /** The STATES from which STEPS lead to STATE s: from intoFrom[s] to before intoFrom[s + 1]. */
        private final int[] into = new int[MOST_CASES];
        private final int[] intoFrom = new int[MOST_STATES + 1];
        private final int[] order = new int[MOST_STATES];
        private int met;
        /** Of each STATE that is met: how far it is, and from which STATE with which INPUTS it is come to. */
        private final int[] distance = new int[MOST_STATES];
        private final int[] before = new int[MOST_STATES];
        private final int[] inputs = new int[MOST_STATES];

        Steps(Circuit circuit) {
            this.circuit = circuit;
        }

        /** A reg without a next keeps what it had, so each STEP stays in its STATE at first. */
        void begin() {
            stateCount = 1 << circuit.regBits;
            choices = 1 << circuit.inputBits;
            cases = stateCount * choices;
            for (int c = 0; c < cases; c++) {
                next[c] = c >> circuit.inputBits;
            }
        }

        void change(int reg, Values values) {
            int behind = circuit.bitsBehindReg(reg);
            int most = (1 << circuit.bits[reg]) - 1;
            for (int c = 0; c < cases; c++) {
                next[c] = (next[c] & ~(most << behind)) | ((values.ofLast(c) & most) << behind);
            }
            values.drop();
        }

        void finish() {
            turnBack();
            meetAll();
        }

        int caseOf(int aState, int someInputs) {
            return (aState << circuit.inputBits) | someInputs;
        }

        private void turnBack() {
            Arrays.fill(intoFrom, 0);
            for (int c = 0; c < cases; c++) {
                intoFrom[next[c]]++;
            }
            for (int s = 1; s <= stateCount; s++) {
                intoFrom[s] += intoFrom[s - 1];
            }
            for (int c = 0; c < cases; c++) {
                intoFrom[next[c]]--;
                into[intoFrom[next[c]]] = c >> circuit.inputBits;
            }
        }

        private void meetAll() {
            Arrays.fill(distance, -1);
            order[0] = circuit.first;
            distance[circuit.first] = 0;
            met = 1;
            for (int k = 0; k < met && k < stateCount; k++) {
                for (int i = 0; i < choices; i++) {
                    meet(order[k], i);
                }
            }
        }

        private void meet(int from, int someInputs) {
            int to = next[caseOf(from, someInputs)];
            if (distance[to] < 0 && met < MOST_STATES) {
                distance[to] = distance[from] + 1;
                before[to] = from;
                inputs[to] = someInputs;
                order[met] = to;
                met++;
            }
        }
    }

    /** Works out FORMULAS for all STATES at once: a set has a bit for each STATE. */
    private static final class Claims {
        private static final int LONGS_OF_A_SET = MOST_STATES / 64;
        private static final int EVERY = MOST_SPECS * LONGS_OF_A_SET;
        private static final int LOWEST = EVERY + LONGS_OF_A_SET;
        /** Each depth lets three wait (before &&, || and U); the last one's result needs a set more. */
        private static final int MOST_WAITING = 3 * (MOST_DEPTH + 1) + 2;

        private final Steps steps;
        /** The sets of the specs, the one of all STATES, and the stack. */
        private final long[] sets = new long[LOWEST + MOST_WAITING * LONGS_OF_A_SET];
        private int top;
        private final int[] queue = new int[MOST_STATES];
        private int queued;
        /** Of each STATE, how many of its STEPS must yet be found to lead into the set that grows. */
        private final int[] missing = new int[MOST_STATES];

        Claims(Steps steps) {
            this.steps = steps;
        }

        void begin() {
            top = LOWEST;
            empty(EVERY);
            for (int s = 0; s < steps.stateCount; s++) {
                put(EVERY, s);
            }
        }

        boolean isSo(int spec, int aState) {
            return has(spec * LONGS_OF_A_SET, aState);
        }

        int sizeOf(int spec) {
            int size = 0;
            for (int i = 0; i < LONGS_OF_A_SET; i++) {
                size += Long.bitCount(sets[spec * LONGS_OF_A_SET + i]);
            }
            return size;
        }

        /** { } of what was worked out last. */
        void test(Values values) {
            int set = pushEmpty();
            for (int s = 0; s < steps.stateCount; s++) {
                if (isTrueWithAllInputs(values, s)) {
                    put(set, s);
                }
            }
            values.drop();
        }

        private boolean isTrueWithAllInputs(Values values, int aState) {
            for (int i = 0; i < steps.choices; i++) {
                if (values.ofLast(steps.caseOf(aState, i)) == 0) {
                    return false;
                }
            }
            return true;
        }

        void perform(int order, int about) {
            switch (order) {
                case CLAIM_NAMED: copy(about * LONGS_OF_A_SET, pushEmpty()); break;
                case SPEC: copy(pop(), about * LONGS_OF_A_SET); break;
                case CLAIM_NOT: turn(last()); break;
                case CLAIM_AND:
                case CLAIM_OR:
                case CLAIM_IMPLIES: join(order); break;
                case ALL:
                case SOME: joinUntil(order == ALL); break;
                default: comeTo(order);
            }
        }

        private void join(int order) {
            int b = pop();
            int a = last();
            for (int i = 0; i < LONGS_OF_A_SET; i++) {
                if (order == CLAIM_AND) {
                    sets[a + i] &= sets[b + i];
                } else if (order == CLAIM_OR) {
                    sets[a + i] |= sets[b + i];
                } else {
                    sets[a + i] = (sets[EVERY + i] & ~sets[a + i]) | sets[b + i];
                }
            }
        }

        private void joinUntil(boolean onAllPaths) {
            int goal = pop();
            int way = last();
            until(onAllPaths, way, goal);
            copy(goal, way);
        }

        private void comeTo(int order) {
            boolean negated = order == EX || order == AG || order == EG;
            int set = last();
            if (negated) {
                turn(set);
            }
            if (order == AX || order == EX) {
                allNext(set);
            } else {
                until(order == AF || order == EG, EVERY, set);
            }
            if (negated) {
                turn(set);
            }
        }

        private void allNext(int set) {
            int result = pushEmpty();
            for (int s = 0; s < steps.stateCount; s++) {
                if (isAtAllNext(set, s)) {
                    put(result, s);
                }
            }
            copy(pop(), set);
        }

        private boolean isAtAllNext(int set, int aState) {
            for (int i = 0; i < steps.choices; i++) {
                if (!has(set, steps.next[steps.caseOf(aState, i)])) {
                    return false;
                }
            }
            return true;
        }

        /** Goal grows by the STATES of way of which one STEP, or all, lead into it, till there are no more. */
        private void until(boolean onAllPaths, int way, int goal) {
            int needed = onAllPaths ? steps.choices : 1;
            int never = steps.choices + 1;
            queued = 0;
            for (int s = 0; s < steps.stateCount; s++) {
                missing[s] = has(way, s) ? needed : never;
                if (has(goal, s)) {
                    missing[s] = 0;
                    enqueue(s);
                }
            }
            for (int k = 0; k < queued && k < MOST_STATES; k++) {
                put(goal, queue[k]);
                leadBack(queue[k]);
            }
        }

        /** A STATE has one STEP a choice, so what misses more than those, or nothing, never comes to 0 here. */
        private void leadBack(int to) {
            for (int i = steps.intoFrom[to]; i < steps.intoFrom[to + 1]; i++) {
                int from = steps.into[i];
                missing[from]--;
                if (missing[from] == 0) {
                    enqueue(from);
                }
            }
        }

        private void enqueue(int aState) {
            if (queued < MOST_STATES) {
                queue[queued] = aState;
                queued++;
            }
        }

        private int pushEmpty() {
            if (top + LONGS_OF_A_SET <= sets.length) {
                top += LONGS_OF_A_SET;
            }
            empty(last());
            return last();
        }

        /** The set stays readable till the next push. */
        private int pop() {
            int set = last();
            if (top > LOWEST) {
                top -= LONGS_OF_A_SET;
            }
            return set;
        }

        private int last() {
            return top > LOWEST ? top - LONGS_OF_A_SET : LOWEST;
        }

        private void empty(int set) {
            for (int i = 0; i < LONGS_OF_A_SET; i++) {
                sets[set + i] = 0;
            }
        }

        private void copy(int from, int to) {
            System.arraycopy(sets, from, sets, to, LONGS_OF_A_SET);
        }

        private void turn(int set) {
            for (int i = 0; i < LONGS_OF_A_SET; i++) {
                sets[set + i] ^= sets[EVERY + i];
            }
        }

        private boolean has(int set, int aState) {
            return ((sets[set + (aState >> 6)] >>> (aState & 63)) & 1) != 0;
        }

        private void put(int set, int aState) {
            sets[set + (aState >> 6)] |= 1L << (aState & 63);
        }
    }

    /** The shortest way that was told last. */
    private static final class Trace {
        private final int[] state = new int[MOST_STATES];
        private final int[] inputs = new int[MOST_STATES];
        private int length;
        private boolean there;

        void forget() {
            there = false;
            length = 0;
        }

        void lead(Steps steps, int goal) {
            there = true;
            length = steps.distance[goal];
            int s = goal;
            for (int i = length; i > 0; i--) {
                state[i] = s;
                inputs[i - 1] = steps.inputs[s];
                s = steps.before[s];
            }
            state[0] = s;
        }
    }
}
