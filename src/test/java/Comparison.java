import java.util.List;
import java.util.NoSuchElementException;
import java.util.Random;

/** Compares what the program answers to a text with what the model says, within 512 calls for most texts. */
final class Comparison {
    private final String run;
    private final Model m;
    private final CircuitChecker x;
    private final Random random;

    Comparison(String run, Model model, CircuitChecker program, Random random) {
        this.run = run;
        m = model;
        x = program;
        this.random = random;
    }

    /** A sound text on a new object. */
    static void of(String run, String text) {
        byte[] bytes = Check.bytes(text);
        Model model = new Model(bytes);
        Check.due(run + ": the model's fault", model.fault, 0);
        new Comparison(run + ": ", model, new CircuitChecker(), new Random(1)).read(bytes);
    }

    private int below(int n) {
        return random.nextInt(n);
    }

    void read(byte[] bytes) {
        int calls = Check.feed(x, bytes);
        Check.due(run + "read()", x.read(), m.fault == 0 ? m.specs.size() : -1);
        Check.due(run + "fault(0)", x.fault(0), m.fault);
        Check.due(run + "fault(1)", x.fault(1), m.place);
        int[] counts = {m.specs.size(), m.names.size(), m.regBits, m.inputBits, m.costs, 0, m.first, 0, -1};
        for (int what = 0; what < counts.length; what++) {
            Check.due(run + "count(" + what + ")", x.count(what), counts[what]);
        }
        Check.due(run + "reachable()", x.reachable(), m.reachable());
        for (int s = 0; s < m.specs.size(); s++) {
            compareSpec("spec " + s + " ", s);
        }
        calls += 16 + 12 * m.specs.size();
        compareRun(Math.max(10, 490 - calls));
    }

    private void compareSpec(String what, int s) {
        boolean[] so = m.specs.get(s);
        int size = 0;
        for (boolean b : so) {
            size += b ? 1 : 0;
        }
        Check.due(run + what + "holds", x.holds(s), so[m.first]);
        Check.due(run + what + "states", x.states(s), size);
        for (int n = 0; n < 4; n++) {
            int state = below(m.stateCount());
            Check.due(run + what + "at " + state, x.at(s, state), so[state]);
        }
        List<Integer> way = m.way(s);
        int steps = x.count(7);
        Check.due(run + what + "trace", x.trace(s), way == null ? -1 : way.size());
        if (way == null) {
            Check.due(run + what + "count(7)", x.count(7), steps);
            return;
        }
        int state = m.first;
        for (int i = 0; i < way.size(); i++) {
            Check.due(run + what + "step " + i + " state", x.step(i, 0), state);
            Check.due(run + what + "step " + i + " inputs", x.step(i, 1), way.get(i));
            state = m.next(state, way.get(i));
        }
        Check.due(run + what + "last state", x.step(way.size(), 0), state);
        Check.dueThrow(run + what + "inputs of no step", NoSuchElementException.class, () -> x.step(way.size(), 1));
        Check.due(run + what + "count(7)", x.count(7), way.size());
    }

    private void compareRun(int calls) {
        int state = m.first;
        for (int n = 0; n < calls; n++) {
            int inputs = below(m.inputCount());
            int sort = below(8);
            if (sort == 0) {
                int to = below(m.stateCount());
                Check.due(run + "go(" + to + ")", x.go(to), state);
                state = to;
            } else if (sort < 3 || m.names.isEmpty()) {
                state = m.next(state, inputs);
                Check.due(run + "tick(" + inputs + ")", x.tick(inputs), state);
            } else {
                int name = below(m.names.size());
                int want = m.values(state, inputs)[name];
                if (m.kinds.get(name).equals("spec")) {
                    want = m.specs.get(m.widths.get(name))[state] ? 1 : 0;
                }
                Check.due(run + "value(" + name + ", " + inputs + ") at " + state, x.value(name, inputs), want);
            }
        }
        Check.due(run + "count(6)", x.count(6), state);
    }
}
