import java.lang.reflect.Method;
import java.util.ArrayList;
import java.util.Arrays;
import java.util.Comparator;
import java.util.List;
import java.util.function.Supplier;

/** What the edge tests share: how they are run, and how the last allowed value and a refused call are looked at. */
final class Edge {
    static final int MIN = Integer.MIN_VALUE;
    static final int MAX = Integer.MAX_VALUE;

    private Edge() {
    }

    /** The tests of a class: methods whose names begin with the promise or the term that they hold to. */
    static List<Method> testsOf(Class<?> tests) {
        List<Method> found = new ArrayList<>();
        for (Method m : tests.getDeclaredMethods()) {
            if (m.getName().matches("(promise\\d\\d|terms\\d)[A-Z]\\w*")) {
                found.add(m);
            }
        }
        found.sort(Comparator.comparing(Method::getName));
        return found;
    }

    static void runAll(Class<?> tests) throws ReflectiveOperationException {
        for (Method m : testsOf(tests)) {
            Due.begin(m.getName());
            int before = Due.passed();
            m.setAccessible(true);
            m.invoke(null);
            Due.yes("something is tested", Due.passed() > before);
        }
        Due.begin(tests.getSimpleName());
        Due.close();
    }

    /** One argument of a call is allowed from low to high; beyond both it is refused with BEYOND. */
    static void bounds(Supplier<Desk> maker, int which, int low, int high, String name, int... fitting) {
        for (int v : new int[] {low, high}) {
            allowed(maker, name, with(fitting, which, v));
        }
        for (int v : new int[] {low - 1, high + 1, MIN, MAX}) {
            refused(maker, Due.BEYOND, name, with(fitting, which, v));
        }
    }

    private static int[] with(int[] fitting, int which, int v) {
        int[] a = fitting.clone();
        a[which] = v;
        return a;
    }

    /** Not a finding; and no finding is counted. */
    static void allowed(Supplier<Desk> maker, String name, int... a) {
        Desk desk = maker.get();
        int findings = desk.call("all", 5);
        String told = name + Arrays.toString(a);
        int answer = desk.call(name, a);
        Due.yes(told + " is allowed (answered " + answer + ")", answer >= -99999);
        Due.same(told + ": findings", desk.call("all", 5), findings);
    }

    /** A finding changes nothing but how many there were: a desk that never heard the call tells the same. */
    static void refused(Supplier<Desk> maker, int finding, String name, int... a) {
        unchanged(maker, 1, finding, name, a);
    }

    /** A call that only asks changes nothing at all. */
    static void asks(Supplier<Desk> maker, int due, String name, int... a) {
        unchanged(maker, due < -99999 ? 1 : 0, due, name, a);
    }

    private static void unchanged(Supplier<Desk> maker, int more, int due, String name, int... a) {
        String told = name + Arrays.toString(a);
        for (Telling telling : Telling.values()) {
            Desk heard = maker.get();
            Desk other = maker.get();
            Due.same(told, heard.call(name, a), due);
            Due.same(told + ": findings more", heard.call("all", 5) - other.call("all", 5), more);
            Due.yes(told + ": nothing has changed (" + telling + ")", telling.of(heard).equals(telling.of(other)));
            Due.same(told + ": findings more, later", heard.call("all", 5) - other.call("all", 5), more);
        }
    }
}
