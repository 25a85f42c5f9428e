import java.util.NoSuchElementException;
import java.util.function.Function;
import java.util.function.Supplier;

/** A call that must be refused: an object on which it was tried goes on like a twin on which it was not. */
final class Refusal {
    private Refusal() {
    }

    static void due(String what, Class<? extends RuntimeException> want, Supplier<CircuitChecker> made,
            Function<CircuitChecker, Object> call) {
        CircuitChecker tried = made.get();
        CircuitChecker twin = made.get();
        Check.dueThrow(what, want, () -> call.apply(tried));
        Check.due("after " + what, shown(tried), shown(twin));
        Check.due("a STEP after " + what, tried.tick(0), twin.tick(0));
        Check.due("a read after " + what, tried.read(), twin.read());
        Check.due("the TEXT after " + what, shown(tried), shown(twin));
    }

    /** All that an object tells without being changed, in fewer than 150 calls for a small circuit. */
    static String shown(CircuitChecker x) {
        StringBuilder s = new StringBuilder("faults ").append(x.fault(0)).append(' ').append(x.fault(1)).append(" counts");
        for (int what = 0; what < 9; what++) {
            s.append(' ').append(x.count(what));
        }
        s.append(" reachable ").append(x.reachable());
        for (int spec = 0; spec < x.count(0); spec++) {
            s.append(" spec ").append(x.holds(spec)).append(' ').append(x.states(spec));
            for (int state = 0; state < 1 << x.count(2); state++) {
                s.append(x.at(spec, state) ? '+' : '-');
            }
        }
        s.append(" values");
        for (int name = 0; name < x.count(1); name++) {
            for (int inputs = 0; inputs < 1 << x.count(3); inputs++) {
                s.append(' ').append(x.value(name, inputs));
            }
        }
        return s.append(" trace").append(traceOf(x)).toString();
    }

    private static String traceOf(CircuitChecker x) {
        StringBuilder s = new StringBuilder();
        try {
            for (int i = 0; i <= x.count(7); i++) {
                s.append(' ').append(x.step(i, 0)).append(i < x.count(7) ? " by " + x.step(i, 1) : "");
            }
        } catch (NoSuchElementException e) {
            s.append(" none");
        }
        return s.toString();
    }
}
