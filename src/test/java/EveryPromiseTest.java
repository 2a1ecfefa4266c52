import java.lang.reflect.Method;
import java.util.Set;
import java.util.TreeSet;

/** Each promise and each of the Terms has edge tests that bear its number. */
public final class EveryPromiseTest {
    private static final Class<?>[] EDGES = {TermsEdgesTest.class, PlanTermsEdgesTest.class, RiverEdgesTest.class,
        TripsEdgesTest.class, PlansEdgesTest.class, LotsEdgesTest.class, SheetsEdgesTest.class};

    private EveryPromiseTest() {
    }

    public static void main(String[] args) {
        Set<String> held = new TreeSet<>();
        for (Class<?> tests : EDGES) {
            for (Method m : Edge.testsOf(tests)) {
                held.add(m.getName().replaceAll("[A-Z].*", ""));
            }
        }
        for (int promise = 1; promise <= 34; promise++) {
            Due.yes("promise " + promise + " has an edge test", held.contains(String.format("promise%02d", promise)));
        }
        for (int term = 0; term <= 5; term++) {
            Due.yes("term " + term + " has an edge test", held.contains("terms" + term));
        }
        Due.close();
    }
}
