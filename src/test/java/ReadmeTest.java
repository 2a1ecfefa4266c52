import java.io.IOException;
import java.lang.reflect.Method;
import java.lang.reflect.Modifier;
import java.nio.file.Files;
import java.nio.file.Path;
import java.util.ArrayList;
import java.util.List;
import java.util.Map;
import java.util.Random;
import java.util.Set;
import java.util.TreeMap;
import java.util.TreeSet;
import java.util.function.Supplier;
import java.util.regex.Matcher;
import java.util.regex.Pattern;
import java.util.stream.Stream;

/** What README.md says is so: its examples, findings, calls and tests. */
public final class ReadmeTest {
    private static final Path TESTS = Path.of("src/test/java");
    private static final Pattern EXAMPLE = Pattern.compile("x\\.(\\w+)\\(([^)]*)\\); +// (-?\\d+)(: .*)?");
    private static final Pattern FINDING = Pattern.compile("\\| ([A-Z]+) \\| (-\\d+) \\| .+ \\|");
    private static final Pattern CALL = Pattern.compile("\\| `(\\w+)\\(([^)]*)\\)` \\| .+ \\| ([A-Z, ]+) \\|");
    private static final int[] VALUES = {-1, 0, 1, 2, 3, 5, 8, 9, 14, 16, 20, 29, 30, 32, 40, 41, 60, 200, 250, 251,
        999, 1000};
    private static final List<Supplier<Desk>> DESKS = List.of(Desks::empty, Desks::one, Desks::some, Desks::full,
            () -> new Desk().then("trip", 0, 0, 20, 9, 0));

    private ReadmeTest() {
    }

    public static void main(String[] args) throws IOException, ReflectiveOperationException {
        List<String> page = Files.readAllLines(Path.of("README.md"));
        examples(page);
        Map<Integer, String> findings = findings(page);
        calls(page, findings);
        tests(page);
        Due.close();
    }

    /** Each line of a java block is a call with its answer, on the object that was made last. */
    private static void examples(List<String> page) throws ReflectiveOperationException {
        CanyonRafts x = null;
        boolean inside = false;
        Set<String> called = new TreeSet<>();
        for (String line : page) {
            Matcher m = EXAMPLE.matcher(line);
            if (line.startsWith("```")) {
                inside = line.equals("```java");
            } else if (inside && line.equals("CanyonRafts x = new CanyonRafts();")) {
                x = new CanyonRafts();
            } else if (inside && m.matches()) {
                Due.same("README.md: " + line, answer(x, m.group(1), m.group(2)), Integer.parseInt(m.group(3)));
                called.add(m.group(1));
            } else if (inside) {
                Due.yes("README.md: " + line + " is an example with an answer", false);
            }
        }
        Due.same("calls with an example", called.size(), openMethods());
    }

    private static Method method(String name) {
        for (Method m : CanyonRafts.class.getMethods()) {
            if (m.getName().equals(name)) {
                return m;
            }
        }
        throw new IllegalArgumentException("no call " + name);
    }

    private static int answer(CanyonRafts x, String name, String told) throws ReflectiveOperationException {
        String[] words = told.isEmpty() ? new String[0] : told.split(", ");
        Method m = method(name);
        Object[] a = new Object[words.length];
        for (int i = 0; i < a.length; i++) {
            boolean logical = words[i].equals("true") || words[i].equals("false");
            a[i] = logical ? (Object) Boolean.valueOf(words[i]) : (Object) Integer.valueOf(words[i]);
        }
        return (int) m.invoke(x, a);
    }

    private static Map<Integer, String> findings(List<String> page) {
        Map<Integer, String> told = new TreeMap<>();
        for (String line : page) {
            Matcher m = FINDING.matcher(line);
            if (m.matches()) {
                told.put(Integer.parseInt(m.group(2)), m.group(1));
            }
        }
        Map<Integer, String> due = Map.of(Due.BEYOND, "BEYOND", Due.MISSING, "MISSING", Due.SIZE, "SIZE", Due.KIND,
                "KIND", Due.FULL, "FULL", Due.NONE, "NONE", Due.TAKEN, "TAKEN");
        Due.yes("the findings are the document's", told.equals(due));
        return told;
    }

    /** The table of calls has each public method once, with its parameters' types and just the findings it answers. */
    private static void calls(List<String> page, Map<Integer, String> findings) {
        Set<String> told = new TreeSet<>();
        for (String line : page) {
            Matcher m = CALL.matcher(line);
            if (m.matches()) {
                Method call = method(m.group(1));
                Due.yes(call.getName() + " stands in the table once", told.add(call.getName()));
                Due.yes(call.getName() + "'s parameters are " + m.group(2), typesOf(m.group(2)).equals(typesOf(call)));
                Set<String> named = new TreeSet<>(List.of(m.group(3).split(", ")));
                Set<String> heard = heard(call, findings);
                Due.yes(call.getName() + " answers " + heard + " and is told to answer " + named, named.equals(heard));
            }
        }
        Due.same("calls in the table", told.size(), openMethods());
    }

    private static long openMethods() {
        return Stream.of(CanyonRafts.class.getDeclaredMethods())
                .filter(m -> Modifier.isPublic(m.getModifiers())).count();
    }

    private static List<String> typesOf(String parameters) {
        List<String> types = new ArrayList<>();
        for (String one : parameters.split(", ")) {
            if (!one.isEmpty()) {
                types.add(one.split(" ")[0]);
            }
        }
        return types;
    }

    private static List<String> typesOf(Method call) {
        return Stream.of(call.getParameterTypes()).map(Class::getSimpleName).toList();
    }

    /** The findings that a call answers on several desks, by arguments of fixed seeds. */
    private static Set<String> heard(Method call, Map<Integer, String> findings) {
        Set<String> heard = new TreeSet<>();
        Random random = new Random(12);
        int[] a = new int[call.getParameterCount()];
        for (Supplier<Desk> maker : DESKS) {
            Desk desk = maker.get();
            for (int i = 0; i < 10000; i++) {
                if (i % 50 == 0) {
                    desk = maker.get();
                }
                for (int k = 0; k < a.length; k++) {
                    a[k] = VALUES[random.nextInt(VALUES.length)];
                }
                int answer = desk.call(call.getName(), a);
                if (answer < -99999) {
                    heard.add(findings.getOrDefault(answer, "an unknown finding"));
                }
            }
        }
        return heard;
    }

    /** The table of tests has each file that .ci/run runs, and no other. */
    private static void tests(List<String> page) throws IOException {
        Set<String> told = new TreeSet<>();
        for (String line : page) {
            Matcher m = Pattern.compile("`(\\w+Test)`").matcher(line);
            while (line.startsWith("|") && m.find()) {
                told.add(m.group(1));
            }
        }
        try (Stream<Path> files = Files.list(TESTS)) {
            Set<String> there = new TreeSet<>(files.map(f -> f.getFileName().toString())
                    .filter(f -> f.endsWith("Test.java")).map(f -> f.replace(".java", "")).toList());
            Due.yes("the table of tests has " + told + ", there are " + there, told.equals(there));
        }
    }
}
