import java.util.Random;

/** Runs of 512 calls by fixed seeds, each answer beside the model's; at the end the whole desk, undone act by act. */
public final class ModelTest {
    private static final int RUNS = 120;
    private static final int CALLS = 512;
    private static final int[] EDGES = {-2, -1, 0, 1, 2, 9, 10, 14, 15, 16, 29, 30, 60, 61, 99, 100, 249, 250, 251,
        999, 1000, 1 << 30, Integer.MAX_VALUE, Integer.MIN_VALUE};
    private static final String[] BUILD = {"camp", "camp", "camp", "rapid", "landing", "trip", "trip", "applicant",
        "water", "sheet", "end", "camp", "trip", "speed"};
    private static final String[] CHANGE = {"end", "camp", "rapid", "landing", "speed", "water", "trip", "launch",
        "night", "night", "night", "take", "take", "fill", "applicant", "weigh", "let", "sheet", "put", "put", "copy",
        "undo", "undo"};
    private static final String[] ASK = {"waterAt", "runs", "as", "of", "at", "who", "plan", "plan", "planned",
        "planned", "calendar", "near", "hurt", "chance", "drawn", "turn", "all"};

    private final Random random;
    /** How long the river of a run is made: short ones have many plans. */
    private final int length;

    private ModelTest(long seed) {
        random = new Random(seed);
        length = 20 + random.nextInt(231);
    }

    public static void main(String[] args) {
        for (int run = 0; run < RUNS; run++) {
            new ModelTest(run).compare(run);
        }
        Due.close();
    }

    private void compare(int run) {
        Desk desk = new Desk();
        Model model = new Model();
        int built = 10 + random.nextInt(50);
        for (int i = 0; i < CALLS; i++) {
            String name = i < built ? pick(BUILD) : random.nextInt(3) == 0 ? pick(CHANGE) : pick(ASK);
            int[] a = arguments(name);
            if (random.nextInt(12) == 0 && a.length > 0) {
                a[random.nextInt(a.length)] = EDGES[random.nextInt(EDGES.length)];
            }
            if (!Due.agree(run, desk, model, name, a)) {
                return;
            }
        }
        compareWhole(run, desk, model);
    }

    private static void compareWhole(int run, Desk desk, Model model) {
        for (int round = 0; round < 21; round++) {
            for (int trip = 0; trip < 10; trip++) {
                for (int what = 0; what < 6; what++) {
                    Due.agree(run, desk, model, "of", trip, what);
                }
                for (int day = 0; day < 30; day++) {
                    Due.agree(run, desk, model, "at", trip, day);
                }
                Due.agree(run, desk, model, "hurt", trip, 100);
            }
            for (int day = 0; day < 30; day++) {
                for (int hour = 0; hour < 24; hour += 6) {
                    Due.agree(run, desk, model, "waterAt", 0, day, hour);
                }
                for (int rapid = 0; rapid < 10; rapid++) {
                    Due.agree(run, desk, model, "runs", rapid, day, 3);
                }
            }
            Due.agree(run, desk, model, "waterAt", 250, 29, 23);
            for (int what = 0; what < 6; what++) {
                Due.agree(run, desk, model, "all", what);
            }
            Due.agree(run, desk, model, "undo");
        }
    }

    private String pick(String[] names) {
        return names[random.nextInt(names.length)];
    }

    private int upTo(int low, int high) {
        return low + random.nextInt(high - low + 1);
    }

    private int trip() {
        return upTo(0, 5);
    }

    private int day() {
        return random.nextInt(4) == 0 ? upTo(0, 29) : upTo(0, 6);
    }

    private int mile() {
        return upTo(1, Math.min(length, 249));
    }

    private int water() {
        return random.nextInt(3) == 0 ? upTo(0, 999) : upTo(60, 240);
    }

    private int[] arguments(String name) {
        switch (name) {
            case "end": return new int[] {random.nextInt(3) == 0 ? upTo(1, length) : Math.min(250, length)};
            case "camp": return new int[] {mile(), upTo(0, 1)};
            case "rapid": {
                int least = upTo(0, 200);
                return new int[] {mile(), least, Math.max(0, least + upTo(-10, 250))};
            }
            case "landing": return new int[] {upTo(0, 250)};
            case "speed": return new int[] {upTo(1, 9)};
            case "water": return new int[] {day(), upTo(0, 3), water()};
            case "waterAt": return new int[] {upTo(0, 250), day(), upTo(0, 23)};
            case "runs": return new int[] {upTo(0, 4), day(), upTo(0, 3)};
            case "trip": return new int[] {upTo(0, 3), random.nextInt(6) == 0 ? upTo(20, 29) : upTo(0, 3),
                Math.min(60, Math.max(1, length / upTo(2, 8))), upTo(2, 15), upTo(0, 2)};
            case "as": return new int[] {trip(), upTo(0, 3)};
            case "of": return new int[] {trip(), upTo(0, 5)};
            case "launch": return new int[] {trip(), day()};
            case "night": return new int[] {trip(), day(), upTo(-1, 7)};
            case "at": return new int[] {trip(), day()};
            case "who": return new int[] {upTo(0, 7), day()};
            case "plan": return new int[] {trip()};
            case "planned": return new int[] {trip(), upTo(0, 6)};
            case "take": return new int[] {trip()};
            case "calendar": return new int[] {upTo(0, 31)};
            case "fill": return new int[] {upTo(0, 31)};
            case "near": return new int[] {trip(), trip(), upTo(0, 60)};
            case "hurt": return new int[] {trip(), upTo(0, 250)};
            case "applicant": return new int[] {upTo(1, 99)};
            case "weigh": return new int[] {upTo(0, 7), upTo(1, 99)};
            case "chance": return new int[] {upTo(0, 7), upTo(0, 1)};
            case "drawn": return new int[] {random.nextInt(), upTo(0, 7)};
            case "turn": return new int[] {random.nextInt(), upTo(0, 7)};
            case "sheet": return new int[] {upTo(0, 3), 8 * new int[] {0, 1, 2, 2, 4}[upTo(0, 4)], upTo(0, 40)};
            case "put": return new int[] {upTo(0, 3), upTo(0, 20), random.nextInt(4) == 0 ? random.nextInt() : water()};
            case "copy": return new int[] {upTo(0, 3), upTo(0, 10), upTo(0, 3), upTo(0, 10), upTo(0, 10)};
            case "let": return new int[] {random.nextInt(3) == 0 ? upTo(18, 29) : day(), upTo(0, 3)};
            case "all": return new int[] {upTo(0, 5)};
            default: return new int[0];
        }
    }
}
