/** The edges of promises 17 to 21: plans and calendars. What a plan is, is told by the Terms: TermsEdgesTest. */
public final class PlansEdgesTest {
    private static final int BEYOND = Due.BEYOND;
    private static final int NONE = Due.NONE;
    private static final int[] NO_TRIPS = {-1, 3, 31, Edge.MIN, Edge.MAX};

    private PlansEdgesTest() {
    }

    public static void main(String[] args) throws ReflectiveOperationException {
        Edge.runAll(PlansEdgesTest.class);
    }

    /** Trip 0 has a plan of one day, 1 of three, 2 none; each has nights that no plan tells. */
    private static Desk three() {
        return new Desk().then("end", 30).then("camp", 10, 0).then("camp", 20, 0).then("camp", 25, 0)
                .then("trip", 0, 0, 30, 5, 1).then("trip", 0, 0, 10, 5, 1).then("trip", 0, 0, 9, 15, 2)
                .then("night", 0, 29, 0).then("night", 1, 29, 1).then("night", 2, 29, 2);
    }

    /** Camps and the end a mile apart, all 14; the trip goes a mile a day. */
    private static CanyonRafts mileByMile(int launch, int food) {
        CanyonRafts x = new CanyonRafts();
        x.end(15);
        for (int mile = 1; mile < 15; mile++) {
            x.camp(mile, false);
        }
        x.trip(0, launch, 1, food, 0);
        return x;
    }

    /** "BEYOND": no such TRIP. */
    private static void promise17ATrip() {
        for (int trip : NO_TRIPS) {
            Edge.refused(PlansEdgesTest::three, BEYOND, "plan", trip);
        }
        Edge.refused(Desks::empty, BEYOND, "plan", 0);
        Edge.refused(Desks::full, BEYOND, "plan", 10);
        Edge.allowed(Desks::full, "plan", 9);
        Edge.allowed(Desks::full, "plan", 0);
    }

    /** "NONE: there is none." */
    private static void promise17NoneIfThereIsNoPlan() {
        Edge.refused(PlansEdgesTest::three, NONE, "plan", 2);
        Edge.refused(() -> new Desk().then("trip", 0, 0, 60, 15, 2), NONE, "plan", 0);
    }

    /** "How many DAYS THE PLAN of a TRIP takes": one at least, 15 at most; it is only asked. */
    private static void promise17FromOneDayTo15() {
        Edge.asks(PlansEdgesTest::three, 1, "plan", 0);
        Edge.asks(PlansEdgesTest::three, 3, "plan", 1);
        Due.same("15 days", mileByMile(0, 15).plan(0), 15);
        Due.same("food for 14", mileByMile(0, 14).plan(0), NONE);
    }

    /** "BEYOND: it has no such DAY": DAYS 0 to the last one of the plan. */
    private static void promise18ADayOfThePlan() {
        Edge.bounds(PlansEdgesTest::three, 1, 0, 0, "planned", 0, 0);
        Edge.bounds(PlansEdgesTest::three, 1, 0, 2, "planned", 1, 0);
        CanyonRafts x = mileByMile(15, 15);
        Due.same("no day -1", x.planned(0, -1), BEYOND);
        for (int i = 0; i < 14; i++) {
            Due.same("day " + i, x.planned(0, i), i);
        }
        Due.same("the last day", x.planned(0, 14), -1);
        Due.same("no day 15", x.planned(0, 15), BEYOND);
        Due.same("i is not a day of the calendar", x.planned(0, 29), BEYOND);
    }

    /** "-1 (no finding): the last DAY." */
    private static void promise18TheLastDayIsNoFinding() {
        Edge.asks(PlansEdgesTest::three, -1, "planned", 0, 0);
        Edge.asks(PlansEdgesTest::three, 0, "planned", 1, 0);
        Edge.asks(PlansEdgesTest::three, 1, "planned", 1, 1);
        Edge.asks(PlansEdgesTest::three, -1, "planned", 1, 2);
    }

    /** "BEYOND: no such TRIP. NONE: there is no PLAN. BEYOND: it has no such DAY." */
    private static void promise18TheTripIsAskedAheadOfThePlanAndThePlanAheadOfTheDay() {
        for (int trip : NO_TRIPS) {
            Edge.refused(PlansEdgesTest::three, BEYOND, "planned", trip, 0);
            Edge.refused(PlansEdgesTest::three, BEYOND, "planned", trip, -1);
        }
        Edge.refused(Desks::empty, BEYOND, "planned", 0, 0);
        for (int i : new int[] {-1, 0, 15, Edge.MIN, Edge.MAX}) {
            Edge.refused(PlansEdgesTest::three, NONE, "planned", 2, i);
        }
    }

    /** "BEYOND. NONE.": nothing changes, the nights that it has stay. */
    private static void promise19ATripWithAPlan() {
        for (int trip : NO_TRIPS) {
            Edge.refused(PlansEdgesTest::three, BEYOND, "take", trip);
        }
        Edge.refused(Desks::empty, BEYOND, "take", 0);
        Edge.refused(Desks::full, BEYOND, "take", 10);
        Edge.refused(PlansEdgesTest::three, NONE, "take", 2);
        Edge.allowed(PlansEdgesTest::three, "take", 0);
        Edge.allowed(PlansEdgesTest::three, "take", 1);
        Edge.allowed(Desks::full, "take", 9);
    }

    /** "its NIGHTS become that one's: how many NIGHTS": none for a plan of one day, 14 at most. */
    private static void promise19FromNoNightTo14() {
        CanyonRafts x = mileByMile(15, 15);
        x.night(0, 14, 3);
        x.night(0, 29, 3);
        Due.same("14 nights", x.take(0), 14);
        Due.same("14 nights", x.of(0, 5), 14);
        Due.same("ahead of the launch", x.at(0, 14), NONE);
        Due.same("the first", x.at(0, 15), 0);
        Due.same("the last", x.at(0, 28), 13);
        Due.same("behind its last day", x.at(0, 29), NONE);
        x.end(1);
        Due.same("a plan of one day", x.take(0), 0);
        Due.same("no nights", x.of(0, 5), 0);
        Due.same("undo", x.undo(), 19);
        Due.same("14 nights again", x.of(0, 5), 14);
    }

    /** "BEYOND: the set has a bit of none": with no trip, one, three, ten. */
    private static void promise20EachBitIsATrip() {
        setIsAsked("calendar");
    }

    private static void setIsAsked(String name) {
        Edge.allowed(Desks::empty, name, 0);
        Edge.refused(Desks::empty, BEYOND, name, 1);
        Edge.allowed(Desks::one, name, 1);
        Edge.refused(Desks::one, BEYOND, name, 2);
        Edge.allowed(PlansEdgesTest::three, name, 0);
        Edge.allowed(PlansEdgesTest::three, name, 7);
        for (int bit = 3; bit < 32; bit++) {
            Edge.refused(PlansEdgesTest::three, BEYOND, name, 1 << bit);
        }
        for (int set : new int[] {8 | 7, -1, -8, Edge.MAX, Edge.MIN | 1}) {
            Edge.refused(PlansEdgesTest::three, BEYOND, name, set);
        }
        Edge.allowed(Desks::full, name, 1023);
        Edge.refused(Desks::full, BEYOND, name, 1024);
        Edge.refused(Desks::full, BEYOND, name, 1 << 31);
    }

    /** "How many TRIPS of a set get a PLAN": none, some, all; it is only asked. */
    private static void promise20NoneSomeAll() {
        Edge.asks(PlansEdgesTest::three, 0, "calendar", 0);
        Edge.asks(PlansEdgesTest::three, 0, "calendar", 4);
        Edge.asks(PlansEdgesTest::three, 1, "calendar", 2);
        Edge.asks(PlansEdgesTest::three, 2, "calendar", 3);
        Edge.asks(PlansEdgesTest::three, 2, "calendar", 7);
    }

    /** "BEYOND." */
    private static void promise21EachBitIsATrip() {
        setIsAsked("fill");
    }

    /** "(those that get no PLAN none): how many got one"; trips that are not of the set keep their nights. */
    private static void promise21NoneSomeAll() {
        for (int set = 0; set < 8; set++) {
            Desk desk = three();
            int got = Integer.bitCount(set & 3);
            Due.same("fill(" + set + ")", desk.call("fill", set), got);
            Due.same("trip 0", desk.call("of", 0, 5), (set & 1) != 0 ? 0 : 1);
            Due.same("trip 1", desk.call("of", 1, 5), (set & 2) != 0 ? 2 : 1);
            Due.same("trip 2", desk.call("of", 2, 5), (set & 4) != 0 ? 0 : 1);
            Due.same("trip 1's old night", desk.call("at", 1, 29), (set & 2) != 0 ? NONE : 1);
            Due.same("it is an act", desk.call("undo"), 10);
            Due.same("trip 0 again", desk.call("at", 0, 29), 0);
            Due.same("trip 1 again", desk.call("at", 1, 29), 1);
            Due.same("trip 2 again", desk.call("at", 2, 29), 2);
            Due.same("trip 1 has one night again", desk.call("of", 1, 5), 1);
        }
    }

    /** "(those that get no PLAN none)": the first of the set, one in the middle, the last, with nights ahead of it. */
    private static void promise21TheOneWithoutAPlan() {
        for (int without = 0; without < 3; without++) {
            Desk desk = new Desk().then("end", 20).then("camp", 10, 0).then("camp", 10, 0).then("camp", 15, 0);
            for (int trip = 0; trip < 3; trip++) {
                desk.then("trip", 0, 0, trip == without ? 1 : 10, 5, 0);
            }
            desk.then("night", without, 0, 0).then("night", without, 29, 2);
            Due.same("calendar", desk.call("calendar", 7), 2);
            Due.same("its nights are there still", desk.call("of", without, 5), 2);
            Due.same("fill", desk.call("fill", 7), 2);
            for (int trip = 0; trip < 3; trip++) {
                Due.same("nights of trip " + trip, desk.call("of", trip, 5), trip == without ? 0 : 1);
            }
            Due.same("the camp is another's", desk.call("who", 0, 0), without == 0 ? 1 : 0);
        }
    }
}
