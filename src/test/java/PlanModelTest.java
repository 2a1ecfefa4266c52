import java.util.Random;

/** Rivers made so that plans are long, narrow and full of turns: each plan, and calendars of them, beside the model's. */
public final class PlanModelTest {
    private static final int RIVERS = 400;

    private final Random random;
    private final int run;
    private final Desk desk = new Desk();
    private final Model model = new Model();

    private PlanModelTest(int run) {
        this.run = run;
        random = new Random(1000003L * run);
    }

    public static void main(String[] args) {
        for (int run = 0; run < RIVERS; run++) {
            new PlanModelTest(run).compare();
        }
        Due.close();
    }

    private int upTo(int low, int high) {
        return low + random.nextInt(high - low + 1);
    }

    private void both(String name, int... a) {
        Due.agree(run, desk, model, name, a);
    }

    private void compare() {
        int length = upTo(12, 120);
        makeRiver(length);
        int trips = upTo(2, 10);
        int launch = random.nextInt(5) == 0 ? upTo(20, 29) : upTo(0, 4);
        for (int t = 0; t < trips; t++) {
            int pace = Math.min(60, Math.max(1, length / upTo(3, 9)));
            both("trip", upTo(0, 3), Math.min(29, launch + upTo(0, 2)), pace, upTo(3, 15), upTo(0, 2));
        }
        for (int i = upTo(0, 60); i > 0; i--) {
            both("night", upTo(0, trips - 1), Math.min(29, launch + upTo(0, 8)), upTo(0, 13));
        }
        tell(trips);
        both("calendar", upTo(0, (1 << trips) - 1));
        tell(1);
        both("fill", upTo(0, (1 << trips) - 1));
        tell(trips);
        both("fill", (1 << trips) - 1);
        tell(trips);
        both("undo");
        both("undo");
        tell(trips);
    }

    private void makeRiver(int length) {
        both("end", length);
        for (int c = upTo(6, 14); c > 0; c--) {
            both("camp", upTo(1, Math.min(249, length + 2)), upTo(0, 3) == 0 ? 1 : 0);
        }
        for (int r = upTo(0, 10); r > 0; r--) {
            int least = upTo(40, 200);
            both("rapid", upTo(1, Math.min(249, length + 2)), least, least + upTo(20, 200));
        }
        both("speed", upTo(1, 9));
        for (int day = 0; day < 30; day++) {
            both("water", day, upTo(0, 3), upTo(0, 400));
            both("water", day, upTo(0, 3), upTo(0, 400));
        }
    }

    private void tell(int trips) {
        for (int t = 0; t < trips; t++) {
            both("plan", t);
            for (int i = -1; i < 16; i++) {
                both("planned", t, i);
            }
            for (int day = 0; day < 30; day++) {
                both("at", t, day);
            }
            both("of", t, 5);
            both("near", t, (t + 1) % trips, upTo(0, 30));
        }
    }
}
