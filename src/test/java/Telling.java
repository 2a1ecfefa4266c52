import java.util.ArrayList;
import java.util.List;

/** All that a desk can be heard to say, as a row of numbers. The desk is used up by it. */
enum Telling {
    /** What it answers now, with the end, the speed and the sheets, which only a change tells. */
    AT_ONCE,
    /** What it answers now, and again behind each undo. */
    UNDONE;

    private static final int[] MILES = {0, 5, 13, 20, 39, 250};

    List<Integer> of(Desk desk) {
        List<Integer> told = new ArrayList<>();
        tellAll(desk, told);
        if (this == AT_ONCE) {
            told.add(desk.call("end", 250));
            told.add(desk.call("speed", 9));
            for (int s = 0; s < 4; s++) {
                tellSheet(desk, told, s);
            }
        } else {
            for (int i = 0; i < 21; i++) {
                told.add(desk.call("undo"));
                tellAll(desk, told);
            }
            told.add(desk.call("end", 250));
            told.add(desk.call("speed", 9));
        }
        return told;
    }

    private static void tellAll(Desk desk, List<Integer> told) {
        for (int what = 0; what < 5; what++) {
            told.add(desk.call("all", what));
        }
        for (int trip = 0; trip < desk.call("all", 3); trip++) {
            tellTrip(desk, told, trip);
        }
        told.add(desk.call("calendar", (1 << desk.call("all", 3)) - 1));
        for (int applicant = 0; applicant < desk.call("all", 4); applicant++) {
            told.add(desk.call("chance", applicant, 0));
            told.add(desk.call("chance", applicant, 1));
            told.add(desk.call("turn", 77, applicant));
        }
        tellRiver(desk, told);
    }

    private static void tellTrip(Desk desk, List<Integer> told, int trip) {
        for (int what = 0; what < 6; what++) {
            told.add(desk.call("of", trip, what));
        }
        for (int day = 0; day < 30; day++) {
            told.add(desk.call("at", trip, day));
        }
        for (int i = 0; i < 5; i++) {
            told.add(desk.call("planned", trip, i));
        }
        for (int mile : MILES) {
            told.add(desk.call("hurt", trip, mile));
        }
        told.add(desk.call("near", trip, 0, 9));
    }

    private static void tellRiver(Desk desk, List<Integer> told) {
        for (int day = 0; day < 30; day++) {
            for (int hour = 0; hour < 24; hour += 6) {
                told.add(desk.call("waterAt", 0, day, hour));
            }
            told.add(desk.call("waterAt", 250, day, 12));
            for (int rapid = 0; rapid < desk.call("all", 1); rapid++) {
                told.add(desk.call("runs", rapid, day, 0));
                told.add(desk.call("runs", rapid, day, 3));
            }
            for (int camp = 0; camp < desk.call("all", 0); camp++) {
                told.add(desk.call("who", camp, day));
            }
        }
    }

    /** Its numbers, read as water; then how many bits it has, which are told by what they cut off. */
    private static void tellSheet(Desk desk, List<Integer> told, int s) {
        told.add(desk.call("let", 0, s));
        for (int quarter = 0; quarter < 40; quarter++) {
            told.add(desk.call("waterAt", 0, quarter / 4, quarter % 4 * 6));
        }
        for (int v : new int[] {256 + 1, 65536 + 1}) {
            told.add(desk.call("put", s, 0, v));
            told.add(desk.call("let", 0, s));
            told.add(desk.call("waterAt", 0, 0, 0));
        }
    }
}
