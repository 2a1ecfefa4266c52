import java.io.IOException;
import java.lang.reflect.Constructor;
import java.lang.reflect.Field;
import java.lang.reflect.Method;
import java.lang.reflect.Modifier;
import java.nio.file.Files;
import java.nio.file.Path;
import java.util.ArrayList;
import java.util.List;
import java.util.Set;
import java.util.TreeSet;
import java.util.regex.Matcher;
import java.util.regex.Pattern;

/** Rules of ../shared/LANGUAGE.md that a look at the class and at its text can tell. */
public final class LanguageTest {
    private static final String FACE = "end(int) camp(int,boolean) rapid(int,int,int) landing(int) speed(int) "
            + "water(int,int,int) waterAt(int,int,int) runs(int,int,int) trip(int,int,int,int,int) as(int,int) "
            + "of(int,int) launch(int,int) night(int,int,int) at(int,int) who(int,int) plan(int) planned(int,int) "
            + "take(int) calendar(int) fill(int) near(int,int,int) hurt(int,int) applicant(int) weigh(int,int) "
            + "chance(int,boolean) drawn(int,int) turn(int,int) sheet(int,int,int) put(int,int,int) "
            + "copy(int,int,int,int,int) let(int,int) undo() all(int)";
    private static final String FORBIDDEN = "\\b(throw|throws|try|catch|synchronized|assert|volatile|transient|native"
            + "|protected|package|System\\.(?!arraycopy)\\w+|Thread|Random|toString|hashCode|equals|\\w+Exact)\\b|->|::";
    private static final Set<Class<?>> CONSTANTS = Set.of(int.class, long.class, boolean.class, char.class,
            String.class, int[].class, long[].class, char[].class, byte[].class);
    private static final Set<String> LIBRARY = Set.of("Math.max", "Math.min", "Math.abs", "System.arraycopy",
            "Arrays.fill");

    private LanguageTest() {
    }

    public static void main(String[] args) throws IOException {
        Path source = Path.of(args.length > 0 ? args[0] : "src/main/java/CanyonRafts.java");
        String text = Files.readString(source);
        face();
        nested();
        words(text);
        lengths(text);
        Due.close();
    }

    private static String told(Method m) {
        List<String> types = new ArrayList<>();
        for (Class<?> type : m.getParameterTypes()) {
            types.add(type.getSimpleName());
        }
        return m.getName() + "(" + String.join(",", types) + ")";
    }

    private static void face() {
        Set<String> open = new TreeSet<>();
        Set<String> names = new TreeSet<>();
        for (Method m : CanyonRafts.class.getDeclaredMethods()) {
            if (Modifier.isPrivate(m.getModifiers())) {
                Due.yes("private " + m.getName() + " has a name of its own", !FACE.matches("(.* )?" + m.getName() + "\\(.*"));
            } else {
                Due.yes(told(m) + " is public and answers an int",
                        Modifier.isPublic(m.getModifiers()) && m.getReturnType() == int.class);
                open.add(told(m));
            }
            names.add(m.getName());
        }
        Due.yes("the face is the document's", open.equals(new TreeSet<>(List.of(FACE.split(" ")))));
        Constructor<?>[] makers = CanyonRafts.class.getDeclaredConstructors();
        Due.yes("one public constructor", makers.length == 1 && Modifier.isPublic(makers[0].getModifiers())
                && makers[0].getParameterCount() == 0);
        for (Field f : CanyonRafts.class.getDeclaredFields()) {
            Due.yes(f.getName() + " is private", Modifier.isPrivate(f.getModifiers()));
            constant(f);
        }
        Due.yes("public and final", Modifier.isPublic(CanyonRafts.class.getModifiers())
                && Modifier.isFinal(CanyonRafts.class.getModifiers()));
    }

    private static void nested() {
        Class<?>[] classes = CanyonRafts.class.getDeclaredClasses();
        Due.yes("at most twelve classes", classes.length < 12);
        for (Class<?> c : classes) {
            Due.yes(c.getName() + " is static and not public",
                    Modifier.isStatic(c.getModifiers()) && !Modifier.isPublic(c.getModifiers()));
            int fields = 0;
            for (Field f : c.getDeclaredFields()) {
                constant(f);
                fields += Modifier.isStatic(f.getModifiers()) ? 0 : 1;
            }
            Due.yes(c.getName() + " has at most twenty fields", fields <= 20);
            for (Method m : c.getDeclaredMethods()) {
                Due.yes(m + " has at most seven parameters", m.getParameterCount() <= 7);
                Due.yes(m + " has a name of its own", !FACE.matches("(.* )?" + m.getName() + "\\(.*"));
            }
        }
    }

    /** Rule 5: what is static is final, and of a type that a constant may have. */
    private static void constant(Field f) {
        if (Modifier.isStatic(f.getModifiers())) {
            Due.yes(f + " is a constant", Modifier.isFinal(f.getModifiers()) && CONSTANTS.contains(f.getType()));
        }
    }

    private static void words(String text) {
        String code = text.replaceAll("(?s)/\\*.*?\\*/", "").replaceAll("//[^\n]*", "");
        Matcher bad = Pattern.compile(FORBIDDEN).matcher(code);
        while (bad.find()) {
            Due.yes("no " + bad.group() + " in the program", false);
        }
        Matcher use = Pattern.compile("\\b(Math|System|Arrays|Integer|Long)\\.(\\w+)").matcher(code.replaceAll("import [^\n]*", ""));
        while (use.find()) {
            Due.yes(use.group() + " is of the library that the program uses", LIBRARY.contains(use.group()));
        }
        Due.yes("only plain signs", text.chars().allMatch(c -> c == '\n' || c >= ' ' && c < 127));
    }

    /** A method begins at a line with an opening brace and ends at the brace of the same indent. */
    private static void lengths(String text) {
        String[] lines = text.split("\n");
        Pattern head = Pattern.compile("^( +)(public |private |static |void |boolean |int|[A-Z]\\w*\\()[^=;]*\\([^;]*$");
        for (int i = 0; i < lines.length; i++) {
            Matcher m = head.matcher(lines[i]);
            if (m.find()) {
                int j = i;
                while (j < lines.length && !lines[j].equals(m.group(1) + "}")) {
                    j++;
                }
                Due.yes("line " + (i + 1) + ": a short method", j - i <= 60);
            }
        }
    }
}
