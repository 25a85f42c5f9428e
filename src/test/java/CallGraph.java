import java.util.HashMap;
import java.util.Map;
import java.util.Set;
import java.util.TreeMap;
import java.util.TreeSet;

/** Which methods call which. */
final class CallGraph {
    private final Map<String, Set<String>> calls = new TreeMap<>();
    private final Map<String, Integer> depths = new HashMap<>();

    void add(String method) {
        calls.computeIfAbsent(method, m -> new TreeSet<>());
    }

    void add(String method, String called) {
        add(method);
        add(called);
        calls.get(method).add(called);
    }

    Set<String> methods() {
        return calls.keySet();
    }

    private Set<String> calledBy(String method) {
        return calls.getOrDefault(method, Set.of());
    }

    /** All that a method calls, itself or by others; the method is among them if it is recursive. */
    Set<String> reachedFrom(String method) {
        Set<String> reached = new TreeSet<>();
        Set<String> open = new TreeSet<>(calledBy(method));
        while (!open.isEmpty()) {
            String next = open.iterator().next();
            open.remove(next);
            if (reached.add(next)) {
                open.addAll(calledBy(next));
            }
        }
        return reached;
    }

    Set<String> recursive() {
        Set<String> found = new TreeSet<>();
        for (String method : methods()) {
            if (reachedFrom(method).contains(method)) {
                found.add(method);
            }
        }
        return found;
    }

    /** The calls that some methods make to one another. */
    CallGraph among(Set<String> some) {
        CallGraph part = new CallGraph();
        for (String method : some) {
            part.add(method);
            for (String called : calledBy(method)) {
                if (some.contains(called)) {
                    part.add(method, called);
                }
            }
        }
        return part;
    }

    private Set<String> recursionOf(String method) {
        Set<String> recursion = new TreeSet<>(Set.of(method));
        for (String other : reachedFrom(method)) {
            if (reachedFrom(other).contains(method)) {
                recursion.add(other);
            }
        }
        return recursion;
    }

    /** The longest chain of calls that a method begins, with itself; those of one recursion count as one. */
    int depthFrom(String method) {
        Integer known = depths.get(method);
        if (known != null) {
            return known;
        }
        Set<String> recursion = recursionOf(method);
        int below = 0;
        for (String one : recursion) {
            for (String next : calledBy(one)) {
                if (!recursion.contains(next)) {
                    below = Math.max(below, depthFrom(next));
                }
            }
        }
        depths.put(method, below + 1);
        return below + 1;
    }
}
