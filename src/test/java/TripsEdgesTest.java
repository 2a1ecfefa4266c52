/** The edges of promises 10 to 16, 22 and 23: trips, their nights, who is near, the way out. */
public final class TripsEdgesTest {
    private static final int BEYOND = Due.BEYOND;
    private static final int FULL = Due.FULL;
    private static final int KIND = Due.KIND;
    private static final int NONE = Due.NONE;
    private static final int SIZE = Due.SIZE;
    private static final int TAKEN = Due.TAKEN;

    private TripsEdgesTest() {
    }

    public static void main(String[] args) throws ReflectiveOperationException {
        Edge.runAll(TripsEdgesTest.class);
    }

    /** "BEYOND: no such kind, DAY, PACE, FOOD, or times to LIE OVER." */
    private static void promise10AKindALaunchAPaceAFoodAndTimesToLieOver() {
        Edge.bounds(Desks::some, 0, 0, 3, "trip", 1, 5, 20, 9, 1);
        Edge.bounds(Desks::some, 1, 0, 29, "trip", 1, 5, 20, 9, 1);
        Edge.bounds(Desks::some, 2, 1, 60, "trip", 1, 5, 20, 9, 1);
        Edge.bounds(Desks::some, 3, 1, 15, "trip", 1, 5, 20, 9, 1);
        Edge.bounds(Desks::some, 4, 0, 2, "trip", 1, 5, 20, 9, 1);
        Edge.allowed(Desks::empty, "trip", 0, 0, 1, 1, 0);
        Edge.allowed(Desks::empty, "trip", 3, 29, 60, 15, 2);
    }

    /** "FULL: there are 10"; the 10th is allowed. */
    private static void promise10ThereAre10TripsAtMost() {
        CanyonRafts x = new CanyonRafts();
        for (int t = 0; t < 10; t++) {
            Due.same("trip " + t, x.trip(0, 0, 1, 1, 0), t);
        }
        Due.same("an 11th", x.trip(0, 0, 1, 1, 0), FULL);
        Due.same("10", x.all(3), 10);
        Due.same("one less", x.undo(), 9);
        Due.same("a 10th again", x.trip(0, 0, 1, 1, 0), 9);
        Edge.refused(Desks::full, FULL, "trip", 0, 0, 1, 1, 0);
        Edge.refused(Desks::full, FULL, "trip", 3, 29, 60, 15, 2);
    }

    private static void promise10BeyondIsAskedAheadOfFull() {
        Edge.refused(Desks::full, BEYOND, "trip", 4, 0, 1, 1, 0);
        Edge.refused(Desks::full, BEYOND, "trip", 0, 30, 1, 1, 0);
        Edge.refused(Desks::full, BEYOND, "trip", 0, 0, 61, 1, 0);
        Edge.refused(Desks::full, BEYOND, "trip", 0, 0, 1, 16, 0);
        Edge.refused(Desks::full, BEYOND, "trip", 0, 0, 1, 1, 3);
    }

    /** "A new TRIP without NIGHTS", also where one with NIGHTS was undone. */
    private static void promise10ANewTripHasNoNights() {
        CanyonRafts x = new CanyonRafts();
        x.camp(9, false);
        x.trip(0, 0, 1, 1, 0);
        x.night(0, 0, 0);
        x.night(0, 29, 0);
        x.undo();
        x.undo();
        x.undo();
        Due.same("a new one", x.trip(1, 2, 3, 4, 1), 0);
        Due.same("no nights", x.of(0, 5), 0);
        for (int day = 0; day < 30; day++) {
            Due.same("behind day " + day, x.at(0, day), NONE);
        }
    }

    /** "BEYOND: no such TRIP, or kind." Trip 2 is GUIDED, so it is of kinds 0, 1 and 3. */
    private static void promise11ATripAndAKind() {
        Edge.bounds(Desks::some, 0, 0, 2, "as", 2, 0);
        Edge.bounds(Desks::full, 0, 0, 9, "as", 2, 0);
        Edge.bounds(Desks::some, 1, 0, 3, "as", 2, 0);
        Edge.refused(Desks::empty, BEYOND, "as", 0, 0);
    }

    /** "KIND: it is not of that kind, nor of one under it": each kind as each. */
    private static void promise11EachKindAsEach() {
        boolean[][] is = {{true, false, false, false}, {true, true, false, false}, {true, false, true, false},
            {true, true, false, true}};
        for (int own = 0; own < 4; own++) {
            for (int kind = 0; kind < 4; kind++) {
                int trip = own;
                Edge.asks(TripsEdgesTest::oneOfEachKind, is[own][kind] ? trip : KIND, "as", trip, kind);
            }
        }
    }

    private static Desk oneOfEachKind() {
        return new Desk().then("end", 40).then("camp", 20, 0).then("camp", 25, 1)
                .then("trip", 0, 0, 20, 5, 0).then("trip", 1, 1, 20, 5, 0)
                .then("trip", 2, 2, 20, 5, 0).then("trip", 3, 3, 20, 5, 0);
    }

    /** A kind that there is not is BEYOND for each trip, not KIND. */
    private static void promise11BeyondIsAskedAheadOfKind() {
        for (int trip = 0; trip < 4; trip++) {
            Edge.refused(TripsEdgesTest::oneOfEachKind, BEYOND, "as", trip, -1);
            Edge.refused(TripsEdgesTest::oneOfEachKind, BEYOND, "as", trip, 4);
        }
        Edge.refused(TripsEdgesTest::oneOfEachKind, BEYOND, "as", 4, 2);
    }

    /** "BEYOND: no such TRIP, or another what." */
    private static void promise12ATripAndAWhat() {
        Edge.bounds(Desks::some, 0, 0, 2, "of", 1, 1);
        Edge.bounds(Desks::full, 0, 0, 9, "of", 1, 1);
        Edge.bounds(Desks::some, 1, 0, 5, "of", 1, 1);
        Edge.refused(Desks::empty, BEYOND, "of", 0, 0);
    }

    /** What 0 to 4 at their lowest and their highest; 5 with no NIGHT, one, and one behind each DAY. */
    private static void promise12EachWhatAtItsLeastAndItsMost() {
        int[][] trips = {{0, 0, 1, 1, 0}, {3, 29, 60, 15, 2}};
        for (int[] t : trips) {
            CanyonRafts x = new CanyonRafts();
            x.camp(9, false);
            x.trip(t[0], t[1], t[2], t[3], t[4]);
            for (int what = 0; what < 5; what++) {
                Due.same("of what " + what, x.of(0, what), t[what]);
            }
            Due.same("no night", x.of(0, 5), 0);
            for (int day = 0; day < 30; day++) {
                x.night(0, day, 0);
                Due.same("nights up to day " + day, x.of(0, 5), day + 1);
            }
            x.night(0, 29, 0);
            Due.same("30 nights at most", x.of(0, 5), 30);
            x.night(0, 0, -1);
            Due.same("one less", x.of(0, 5), 29);
        }
    }

    /** "BEYOND": no such TRIP, or DAY. */
    private static void promise13ATripAndADay() {
        Edge.bounds(Desks::some, 0, 0, 2, "launch", 1, 5);
        Edge.bounds(Desks::full, 0, 0, 9, "launch", 1, 5);
        Edge.bounds(Desks::some, 1, 0, 29, "launch", 1, 5);
        Edge.refused(Desks::empty, BEYOND, "launch", 0, 0);
    }

    /** "what it was (its NIGHTS go)": the first and the last night too, of this trip alone, and all come back. */
    private static void promise13ItsNightsGo() {
        CanyonRafts x = new CanyonRafts();
        x.camp(9, false);
        x.camp(10, false);
        for (int t = 0; t < 3; t++) {
            x.trip(0, 7, 20, 5, 0);
        }
        for (int day : new int[] {0, 29}) {
            x.night(0, day, 0);
            x.night(1, day, 1);
            x.night(2, 1 + day / 2, 0);
        }
        Due.same("a refused one", x.launch(1, 30), BEYOND);
        Due.same("its nights stay", x.of(1, 5), 2);
        Due.same("what it was", x.launch(1, 29), 7);
        Due.same("its nights went", x.of(1, 5), 0);
        Due.same("the one ahead keeps its", x.of(0, 5), 2);
        Due.same("the one behind keeps its", x.of(2, 5), 2);
        Due.same("its camp is free", x.who(1, 29), NONE);
        Due.same("the last day", x.launch(1, 0), 29);
        x.undo();
        x.undo();
        Due.same("as it was", x.of(1, 1), 7);
        Due.same("a night is back", x.at(1, 0), 1);
        Due.same("the other too", x.at(1, 29), 1);
    }

    /** "BEYOND: no such TRIP, CAMP, or DAY"; -1 is no camp, and allowed. */
    private static void promise14ATripADayAndACamp() {
        Edge.bounds(Desks::some, 0, 0, 2, "night", 1, 5, 2);
        Edge.bounds(Desks::full, 0, 0, 9, "night", 1, 25, 2);
        Edge.bounds(Desks::some, 1, 0, 29, "night", 0, 5, 2);
        Edge.bounds(Desks::some, 2, -1, 3, "night", 0, 5, 2);
        Edge.bounds(Desks::full, 2, -1, 13, "night", 0, 25, 2);
        Edge.refused(Desks::empty, BEYOND, "night", 0, 0, -1);
    }

    /** There is no camp yet: the trip can be at none, and only there. */
    private static void promise14NoCampYet() {
        Edge.refused(() -> new Desk().then("trip", 0, 0, 1, 1, 0), BEYOND, "night", 0, 0, 0);
        Edge.allowed(() -> new Desk().then("trip", 0, 0, 1, 1, 0), "night", 0, 0, -1);
        Edge.refused(() -> new Desk().then("camp", 1, 0), BEYOND, "night", 0, 0, 0);
    }

    /** "where it was (-1: none, no finding)". */
    private static void promise14WhereItWas() {
        CanyonRafts x = new CanyonRafts();
        x.camp(9, false);
        x.camp(9, false);
        x.trip(0, 0, 1, 1, 0);
        Due.same("it was at none", x.night(0, 29, 1), -1);
        Due.same("it was at camp 1", x.night(0, 29, 0), 1);
        Due.same("it was at camp 0", x.night(0, 29, 0), 0);
        Due.same("it was at camp 0", x.night(0, 29, -1), 0);
        Due.same("it was at none", x.night(0, 29, -1), -1);
        Due.same("no finding", x.all(5), 0);
        Due.same("five acts, three things", x.undo(), 7);
    }

    /** "TAKEN: another TRIP is there": another one, at that camp, behind that day. */
    private static void promise14Taken() {
        Edge.refused(Desks::some, TAKEN, "night", 0, 1, 3);
        Edge.refused(Desks::some, TAKEN, "night", 1, 29, 0);
        Edge.refused(Desks::full, TAKEN, "night", 0, 29, 13);
        Edge.allowed(Desks::some, "night", 1, 1, 3);
        Edge.allowed(Desks::some, "night", 0, 2, 3);
        Edge.allowed(Desks::some, "night", 1, 28, 0);
        Edge.allowed(Desks::some, "night", 2, 29, 0);
        Edge.allowed(Desks::some, "night", 1, 1, -1);
    }

    /** "KIND: it is LARGE, the CAMP SMALL": only such a trip, only such a camp. */
    private static void promise14Kind() {
        for (int trip = 0; trip < 4; trip++) {
            Edge.allowed(TripsEdgesTest::oneOfEachKind, "night", trip, 9, 0);
            Edge.allowed(TripsEdgesTest::oneOfEachKind, "night", trip, 9, -1);
            if (trip != 2) {
                Edge.allowed(TripsEdgesTest::oneOfEachKind, "night", trip, 9, 1);
            }
        }
        Edge.refused(TripsEdgesTest::oneOfEachKind, KIND, "night", 2, 0, 1);
        Edge.refused(TripsEdgesTest::oneOfEachKind, KIND, "night", 2, 29, 1);
    }

    private static void promise14BeyondIsAskedAheadOfTakenAndTakenAheadOfKind() {
        Edge.refused(Desks::some, TAKEN, "night", 1, 0, 1);
        Edge.refused(Desks::some, KIND, "night", 1, 1, 1);
        Edge.refused(Desks::some, BEYOND, "night", 3, 0, 1);
        Edge.refused(Desks::some, BEYOND, "night", -1, 0, 1);
        Edge.refused(Desks::some, BEYOND, "night", 1, 30, 1);
        Edge.refused(Desks::some, BEYOND, "night", 1, -1, 1);
        Edge.refused(Desks::some, BEYOND, "night", 1, 0, 4);
    }

    /** "BEYOND": no such TRIP, or DAY. "NONE: at no CAMP." */
    private static void promise15ATripAndADay() {
        for (int trip : new int[] {-1, 3, Edge.MIN, Edge.MAX}) {
            Edge.refused(Desks::some, BEYOND, "at", trip, 0);
        }
        for (int day : new int[] {-1, 30, Edge.MIN, Edge.MAX}) {
            Edge.refused(Desks::some, BEYOND, "at", 0, day);
        }
        Edge.refused(Desks::empty, BEYOND, "at", 0, 0);
        Edge.asks(Desks::some, 1, "at", 0, 0);
        Edge.asks(Desks::some, 3, "at", 1, 1);
        Edge.asks(Desks::full, 13, "at", 9, 29);
    }

    private static void promise15NoneAtNoCamp() {
        Edge.refused(Desks::some, NONE, "at", 0, 2);
        Edge.refused(Desks::some, NONE, "at", 0, 29);
        Edge.refused(Desks::some, NONE, "at", 1, 0);
        Edge.refused(() -> new Desk().then("trip", 0, 0, 1, 1, 0), NONE, "at", 0, 0);
        CanyonRafts x = new CanyonRafts();
        x.camp(9, false);
        x.trip(0, 0, 1, 1, 0);
        x.night(0, 5, 0);
        Due.same("at camp 0", x.at(0, 5), 0);
        Due.same("a day ahead", x.at(0, 4), NONE);
        Due.same("a day behind", x.at(0, 6), NONE);
        x.night(0, 5, -1);
        Due.same("at none again", x.at(0, 5), NONE);
    }

    /** "BEYOND": no such CAMP, or DAY. */
    private static void promise16ACampAndADay() {
        for (int camp : new int[] {-1, 4, Edge.MIN, Edge.MAX}) {
            Edge.refused(Desks::some, BEYOND, "who", camp, 0);
        }
        for (int day : new int[] {-1, 30, Edge.MIN, Edge.MAX}) {
            Edge.refused(Desks::some, BEYOND, "who", 1, day);
        }
        Edge.refused(Desks::full, BEYOND, "who", 14, 0);
        Edge.refused(Desks::empty, BEYOND, "who", 0, 0);
        Edge.asks(Desks::some, 0, "who", 1, 0);
        Edge.asks(Desks::some, 1, "who", 3, 1);
        Edge.asks(Desks::full, 9, "who", 13, 29);
    }

    /** "NONE": nobody there, also if there is no TRIP at all, or it went. */
    private static void promise16NoneIfNobodyIsThere() {
        Edge.refused(() -> new Desk().then("camp", 9, 0), NONE, "who", 0, 0);
        Edge.refused(Desks::some, NONE, "who", 0, 28);
        Edge.refused(Desks::some, NONE, "who", 3, 29);
        CanyonRafts x = new CanyonRafts();
        x.camp(9, false);
        x.trip(0, 0, 1, 1, 0);
        x.night(0, 0, 0);
        Due.same("it is there", x.who(0, 0), 0);
        Due.same("a day behind", x.who(0, 1), NONE);
        x.night(0, 0, -1);
        Due.same("it went", x.who(0, 0), NONE);
        x.undo();
        x.undo();
        x.undo();
        Due.same("the trip is undone", x.who(0, 0), NONE);
    }

    /** "BEYOND: no such TRIP (either), or miles are not 0 to 250." */
    private static void promise22TwoTripsAndMiles() {
        Edge.allowed(Desks::some, "near", 0, 2, 5);
        for (int trip : new int[] {-1, 3, Edge.MIN, Edge.MAX}) {
            Edge.refused(Desks::some, BEYOND, "near", trip, 1, 5);
            Edge.refused(Desks::some, BEYOND, "near", 1, trip, 5);
        }
        Edge.allowed(Desks::some, "near", 2, 0, 5);
        Edge.allowed(Desks::full, "near", 9, 0, 5);
        Edge.refused(Desks::full, BEYOND, "near", 10, 0, 5);
        Edge.refused(Desks::full, BEYOND, "near", 0, 10, 5);
        Edge.bounds(Desks::some, 2, 0, 250, "near", 0, 1, 5);
        Edge.refused(Desks::empty, BEYOND, "near", 0, 1, 5);
        Edge.refused(Desks::one, BEYOND, "near", 0, 1, 5);
    }

    private static void promise22BeyondIsAskedAheadOfSize() {
        Edge.refused(Desks::some, SIZE, "near", 0, 0, 0);
        Edge.refused(Desks::some, SIZE, "near", 2, 2, 250);
        Edge.refused(Desks::some, BEYOND, "near", 0, 0, 251);
        Edge.refused(Desks::some, BEYOND, "near", 0, 0, -1);
        Edge.refused(Desks::some, BEYOND, "near", 3, 3, 5);
        Edge.refused(Desks::some, BEYOND, "near", -1, -1, 5);
        Edge.refused(Desks::empty, BEYOND, "near", 0, 0, 5);
    }

    /** "at most so many miles apart": 0 apart, as many as that, one more; the farthest two camps there are. */
    private static void promise22AtMostSoManyMilesApart() {
        int[][] miles = {{100, 100}, {100, 101}, {101, 100}, {1, 249}, {249, 1}};
        for (int[] m : miles) {
            CanyonRafts x = new CanyonRafts();
            x.camp(m[0], false);
            x.camp(m[1], false);
            x.trip(0, 0, 1, 1, 0);
            x.trip(0, 0, 1, 1, 0);
            x.night(0, 0, 0);
            x.night(1, 0, 1);
            int apart = Math.abs(m[0] - m[1]);
            Due.same(apart + " apart", x.near(0, 1, apart), 1);
            Due.same(apart + " apart, the other way", x.near(1, 0, apart), 1);
            if (apart > 0) {
                Due.same(apart + " apart, a mile less", x.near(0, 1, apart - 1), 0);
                Due.same(apart + " apart, a mile less, the other way", x.near(1, 0, apart - 1), 0);
            }
            Due.same(apart + " apart, 250", x.near(0, 1, 250), 1);
        }
    }

    /** "How many DAYS there are behind which two TRIPS are at CAMPS": DAY 0, DAY 29, all, none, one of them at none. */
    private static void promise22BothAreAtCampsBehindThatDay() {
        CanyonRafts x = new CanyonRafts();
        x.camp(10, false);
        x.camp(10, false);
        x.trip(0, 0, 1, 1, 0);
        x.trip(0, 0, 1, 1, 0);
        Due.same("none is at a camp", x.near(0, 1, 250), 0);
        x.night(0, 0, 0);
        x.night(0, 29, 0);
        Due.same("only one is", x.near(0, 1, 250), 0);
        Due.same("only the other is", x.near(1, 0, 250), 0);
        x.night(1, 1, 1);
        x.night(1, 28, 1);
        Due.same("on other days", x.near(0, 1, 250), 0);
        x.night(1, 0, 1);
        Due.same("on day 0", x.near(0, 1, 0), 1);
        x.night(1, 29, 1);
        Due.same("on day 29 too", x.near(0, 1, 0), 2);
        for (int day = 0; day < 30; day++) {
            x.night(0, day, 0);
            x.night(1, day, 1);
        }
        Due.same("on all days", x.near(0, 1, 0), 30);
    }

    /** "BEYOND: no such TRIP, or mile (0 to 250)." */
    private static void promise23ATripAndAMile() {
        Edge.bounds(Desks::some, 0, 0, 2, "hurt", 0, 5);
        Edge.bounds(Desks::full, 0, 0, 9, "hurt", 0, 5);
        Edge.bounds(Desks::some, 1, 0, 250, "hurt", 0, 5);
        Edge.refused(Desks::empty, BEYOND, "hurt", 0, 0);
        Edge.refused(() -> new Desk().then("landing", 0), BEYOND, "hurt", 0, 0);
    }

    /** "NONE: there is no LANDING": none yet, or undone. */
    private static void promise23NoneWithoutALanding() {
        Edge.refused(() -> new Desk().then("trip", 0, 0, 1, 1, 0), NONE, "hurt", 0, 0);
        Edge.refused(() -> new Desk().then("trip", 0, 0, 1, 1, 0), NONE, "hurt", 0, 250);
        CanyonRafts x = new CanyonRafts();
        x.trip(0, 0, 1, 1, 0);
        x.landing(7);
        Due.same("there is one", x.hurt(0, 7), 0);
        x.undo();
        Due.same("there is none again", x.hurt(0, 7), NONE);
    }

    private static void promise23BeyondIsAskedAheadOfNone() {
        Edge.refused(() -> new Desk().then("trip", 0, 0, 1, 1, 0), BEYOND, "hurt", 0, -1);
        Edge.refused(() -> new Desk().then("trip", 0, 0, 1, 1, 0), BEYOND, "hurt", 0, 251);
        Edge.refused(() -> new Desk().then("trip", 0, 0, 1, 1, 0), BEYOND, "hurt", 1, 0);
    }
}
