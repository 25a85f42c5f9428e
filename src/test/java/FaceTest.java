import java.lang.reflect.Array;
import java.lang.reflect.Constructor;
import java.lang.reflect.Field;
import java.lang.reflect.Method;
import java.lang.reflect.Modifier;
import java.util.ArrayDeque;
import java.util.Arrays;
import java.util.Deque;
import java.util.IdentityHashMap;
import java.util.Map;
import java.util.Set;
import java.util.TreeSet;

/** The public face is the document's and no more, and an object stays small however it is used. */
public final class FaceTest {
    private static final String[] METHODS = {
        "int feed(int,int,int,int,int) IllegalStateException", "int end(int) IllegalArgumentException", "int read()",
        "int fault(int)", "boolean holds(int) NoSuchElementException", "int states(int) NoSuchElementException",
        "boolean at(int,int) NoSuchElementException", "int reachable()", "int trace(int) NoSuchElementException",
        "int step(int,int) NoSuchElementException IllegalArgumentException", "int tick(int) IllegalArgumentException",
        "int go(int) IllegalArgumentException", "int value(int,int) NoSuchElementException IllegalArgumentException",
        "int count(int)"};

    public static void main(String[] args) throws IllegalAccessException {
        methods();
        members();
        room();
        Check.finish();
    }

    private static String shown(Method m) {
        StringBuilder s = new StringBuilder(m.getReturnType().getName()).append(' ').append(m.getName()).append('(');
        for (Class<?> c : m.getParameterTypes()) {
            s.append(s.charAt(s.length() - 1) == '(' ? "" : ",").append(c.getName());
        }
        s.append(')');
        for (Class<?> c : m.getExceptionTypes()) {
            s.append(' ').append(c.getSimpleName());
        }
        return s.toString();
    }

    private static void methods() {
        Set<String> publics = new TreeSet<>();
        Set<String> names = new TreeSet<>();
        for (Method m : CircuitChecker.class.getDeclaredMethods()) {
            if (Modifier.isPublic(m.getModifiers())) {
                publics.add(shown(m));
                names.add(m.getName());
            }
        }
        Check.due("the face " + publics, publics.equals(new TreeSet<>(Arrays.asList(METHODS))), true);
        for (Method m : CircuitChecker.class.getDeclaredMethods()) {
            if (!Modifier.isPublic(m.getModifiers())) {
                Check.due(m + " is private", Modifier.isPrivate(m.getModifiers()), true);
                Check.due(m + " bears a public name", names.contains(m.getName()), false);
            }
        }
        for (Class<?> c : CircuitChecker.class.getDeclaredClasses()) {
            for (Method m : c.getDeclaredMethods()) {
                Check.due(m + " bears a public name", names.contains(m.getName()), false);
                Check.due("parameters of " + m, m.getParameterCount() <= 7, true);
            }
        }
    }

    private static void members() {
        Class<?> face = CircuitChecker.class;
        Check.due("final", Modifier.isFinal(face.getModifiers()), true);
        Check.due("public", Modifier.isPublic(face.getModifiers()), true);
        Constructor<?>[] made = face.getDeclaredConstructors();
        Check.due("constructors", made.length, 1);
        Check.due("public constructor", Modifier.isPublic(made[0].getModifiers()), true);
        Check.due("its parameters", made[0].getParameterCount(), 0);
        int classes = 0;
        for (Class<?> c : face.getDeclaredClasses()) {
            classes++;
            Check.due(c + " is static", Modifier.isStatic(c.getModifiers()), true);
            Check.due(c + " is no part of the face", (c.getModifiers() & (Modifier.PUBLIC | Modifier.PROTECTED)) == 0, true);
            fields(c);
        }
        Check.due("classes inside", classes <= 11, true);
        fields(face);
    }

    private static void fields(Class<?> c) {
        int own = 0;
        for (Field f : c.getDeclaredFields()) {
            Check.due(f + " is private", Modifier.isPrivate(f.getModifiers()), true);
            if (Modifier.isStatic(f.getModifiers())) {
                Check.due(f + " is final", Modifier.isFinal(f.getModifiers()), true);
            } else {
                own++;
            }
        }
        Check.due("fields of " + c, own <= 20, true);
    }

    /** All that hangs on an object: how many objects and arrays, and how many fields and elements. */
    private static long[] size(Object root) throws IllegalAccessException {
        Map<Object, Boolean> seen = new IdentityHashMap<>();
        Deque<Object> open = new ArrayDeque<>();
        open.add(root);
        seen.put(root, true);
        long cells = 0;
        while (!open.isEmpty()) {
            Object o = open.remove();
            if (o.getClass().isArray()) {
                Check.due("an array of numbers", o.getClass().getComponentType().isPrimitive(), true);
                cells += Array.getLength(o);
                continue;
            }
            for (Field f : o.getClass().getDeclaredFields()) {
                if (!Modifier.isStatic(f.getModifiers())) {
                    cells++;
                    f.setAccessible(true);
                    if (!f.getType().isPrimitive() && seen.put(f.get(o), true) == null) {
                        open.add(f.get(o));
                    }
                }
            }
        }
        return new long[] {seen.size(), cells};
    }

    private static void room() throws IllegalAccessException {
        CircuitChecker x = new CircuitChecker();
        long[] before = size(x);
        System.out.println("objects and arrays " + before[0] + ", fields and elements " + before[1]);
        Check.due("few objects", before[0] <= 60, true);
        Check.due("few elements", before[1] <= 200000, true);
        for (int n = 0; n < 20; n++) {
            Check.read(x, "reg a : 8 = 0; input i : 3; next a = a * 3 + i; spec s = EF AG { a > i }; spec t = A[s U {a}];");
            x.trace(0);
            x.tick(1);
        }
        long[] after = size(x);
        Check.due("no more objects", after[0], before[0]);
        Check.due("no more elements", after[1], before[1]);
    }
}
