/** Counts answers that are due and tells those that are not as due; a test ends with close(). */
final class Due {
    static final int BEYOND = -100001;
    static final int MISSING = -100002;
    static final int SIZE = -100003;
    static final int KIND = -100004;
    static final int FULL = -100005;
    static final int NONE = -100006;
    static final int TAKEN = -100007;

    private static int passed = 0;
    private static int failed = 0;
    private static String test = "";

    private Due() {
    }

    /** What is told from here on belongs to a test with a name. */
    static void begin(String name) {
        test = name + ": ";
    }

    static void same(String what, long got, long want) {
        if (got == want) {
            passed++;
        } else {
            failed++;
            System.out.println(test + what + " answered " + got + ", due is " + want);
        }
    }

    /** One call on both; answers whether they agree. The text is made only where it is needed: there are millions. */
    static boolean agree(int run, Desk desk, Model model, String name, int... a) {
        int got = desk.call(name, a);
        int want = model.call(name, a);
        if (got == want) {
            passed++;
        } else {
            same("run " + run + ": " + name + java.util.Arrays.toString(a), got, want);
        }
        return got == want;
    }

    static void yes(String what, boolean holds) {
        same(what, holds ? 1 : 0, 1);
    }

    static int passed() {
        return passed;
    }

    static void close() {
        System.out.println(passed + " passed, " + failed + " failed");
        if (failed != 0 || passed == 0) {
            System.exit(1);
        }
    }
}
