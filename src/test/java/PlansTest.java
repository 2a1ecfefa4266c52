/** Promises 17 to 21: plans and calendars. */
public final class PlansTest {
    private static final int BEYOND = Due.BEYOND;
    private static final int NONE = Due.NONE;
    private static final int MIN = Integer.MIN_VALUE;
    private static final int MAX = Integer.MAX_VALUE;

    private static CanyonRafts x;

    public static void main(String[] args) {
        wrongTrips();
        pace();
        foodAndTheLastDay();
        rapids();
        rapidsOnTheWay();
        largeOnes();
        freeCamps();
        lyingOver();
        fifteenDays();
        lyingOverAtLowestNumbers();
        lowestNumbers();
        theEnd();
        take();
        calendar();
        calendarForgetsItsOwnNights();
        fill();
        Due.close();
    }

    /** Whether a trip's plan is just these camps. */
    private static void planIs(String what, int trip, int... camps) {
        Due.same(what + ": days", x.plan(trip), camps.length + 1);
        for (int i = 0; i < camps.length; i++) {
            Due.same(what + ": camp behind day " + i, x.planned(trip, i), camps[i]);
        }
        Due.same(what + ": the last day", x.planned(trip, camps.length), -1);
        Due.same(what + ": a day behind it", x.planned(trip, camps.length + 1), BEYOND);
        Due.same(what + ": day -1", x.planned(trip, -1), BEYOND);
    }

    private static void noPlan(String what, int trip) {
        Due.same(what + ": no plan", x.plan(trip), NONE);
        Due.same(what + ": nothing planned", x.planned(trip, 0), NONE);
        Due.same(what + ": none ahead of beyond", x.planned(trip, MAX), NONE);
        Due.same(what + ": nothing to take", x.take(trip), NONE);
    }

    private static void wrongTrips() {
        x = new CanyonRafts();
        x.end(10);
        for (int round = 0; round < 2; round++) {
            for (int trip : new int[] {-1, round, MIN, MAX}) {
                Due.same("plan(" + trip + ")", x.plan(trip), BEYOND);
                Due.same("planned(" + trip + ", 0)", x.planned(trip, 0), BEYOND);
                Due.same("take(" + trip + ")", x.take(trip), BEYOND);
            }
            x.trip(0, 0, 10, 1, 0);
        }
        planIs("a day", 0);
    }

    private static void pace() {
        x = new CanyonRafts();
        x.end(30);
        x.trip(0, 0, 10, 15, 0);
        x.camp(10, false);
        x.camp(21, false);
        noPlan("11 miles to camp 1", 0);
        x.camp(20, false);
        planIs("10 miles a day", 0, 0, 2);
        x.end(31);
        planIs("a mile from camp 2 to camp 1", 0, 0, 2, 1);
        x.end(32);
        noPlan("11 miles from camp 1 to the end", 0);
        x.trip(0, 0, 11, 15, 0);
        planIs("11 miles a day", 1, 0, 1);
    }

    private static void foodAndTheLastDay() {
        x = new CanyonRafts();
        x.end(30);
        x.camp(10, false);
        x.camp(20, false);
        x.trip(0, 0, 10, 2, 0);
        noPlan("food for two days", 0);
        x.trip(0, 27, 10, 3, 0);
        planIs("food for three, to day 29", 1, 0, 1);
        x.trip(0, 28, 10, 15, 0);
        noPlan("it would end on day 30", 2);
        x.trip(0, 29, 30, 15, 0);
        planIs("day 29 itself", 3);
    }

    private static void rapids() {
        x = new CanyonRafts();
        x.end(20);
        x.camp(10, false);
        x.rapid(10, 150, 200);
        x.trip(0, 0, 10, 3, 0);
        noPlan("a rapid at the camp's mile", 0);
        x.trip(3, 0, 10, 3, 0);
        planIs("guided ones run it", 1, 0);
        x.water(0, 1, 150);
        planIs("by hours 8 to 11", 0, 0);
        x.undo();
        x.water(1, 1, 150);
        noPlan("the rapid is run on day 0, not on day 1", 0);
        x.launch(0, 1);
        planIs("with launch on day 1", 0, 0);
        x = new CanyonRafts();
        x.end(20);
        x.camp(10, false);
        x.camp(9, false);
        x.camp(11, false);
        x.rapid(11, 500, 500);
        x.water(1, 1, 500);
        x.trip(0, 0, 11, 2, 0);
        planIs("a camp a mile ahead of the closed rapid", 0, 0);
        x.trip(0, 0, 11, 2, 0);
        x.night(1, 0, 0);
        planIs("the other camp ahead of it, but not the one at it", 0, 1);
        x.night(1, 0, 1);
        planIs("the first again", 0, 0);
    }

    private static void rapidsOnTheWay() {
        x = new CanyonRafts();
        x.end(20);
        x.camp(10, false);
        x.rapid(20, 500, 500);
        x.trip(0, 0, 10, 3, 0);
        planIs("a rapid at the end is not run", 0, 0);
        x.rapid(19, 500, 500);
        noPlan("a rapid below the end", 0);
        x.end(19);
        planIs("the end above the rapid", 0, 0);
        x.end(20);
        x.water(1, 1, 500);
        planIs("4 hours late the water of hours 6 to 11 comes", 0, 0);
    }

    private static void largeOnes() {
        x = new CanyonRafts();
        x.end(20);
        x.camp(10, true);
        for (int kind = 0; kind < 4; kind++) {
            x.trip(kind, 0, 10, 3, 0);
        }
        planIs("oar", 0, 0);
        planIs("motor", 1, 0);
        noPlan("large", 2);
        planIs("guided", 3, 0);
        x.camp(10, false);
        planIs("large at the other camp", 2, 1);
    }

    private static void freeCamps() {
        x = new CanyonRafts();
        x.end(20);
        x.camp(10, false);
        x.trip(0, 0, 10, 3, 0);
        x.trip(0, 0, 10, 3, 0);
        x.night(0, 0, 0);
        planIs("its own night is free", 0, 0);
        noPlan("another's is not", 1);
        x.launch(1, 1);
        planIs("on another day it is", 1, 0);
        x.night(0, 0, -1);
        x.launch(1, 0);
        planIs("free again", 1, 0);
    }

    private static void lyingOver() {
        x = new CanyonRafts();
        x.end(20);
        x.camp(10, false);
        x.rapid(15, 500, 500);
        x.speed(9);
        x.water(3, 1, 500);
        for (int over = 0; over < 3; over++) {
            x.trip(0, 0, 10, 4, over);
        }
        noPlan("the rapid opens on day 3: never over", 0);
        noPlan("once over", 1);
        planIs("twice over", 2, 0, 0, 0);
        x.trip(0, 0, 10, 3, 2);
        noPlan("food for three days", 3);
        x.night(0, 1, 0);
        noPlan("the camp is taken behind day 1", 2);
        x.night(0, 1, -1);
        x.launch(1, 1);
        planIs("once over from day 1 on", 1, 0, 0);
        x.launch(0, 2);
        planIs("never over from day 2 on", 0, 0);
        x.launch(0, 3);
        noPlan("from day 3 on", 0);
        x.launch(0, 0);
        planIs("twice over", 2, 0, 0, 0);
        noPlan("never over, asked behind twice over", 0);
    }

    /** Fourteen camps, a mile each, and fifteen days: the most there can be. */
    private static void fifteenDays() {
        x = new CanyonRafts();
        x.end(15);
        int[] camps = new int[14];
        for (int c = 0; c < 14; c++) {
            x.camp(14 - c, false);
            camps[c] = 13 - c;
        }
        x.trip(0, 15, 1, 15, 2);
        planIs("fifteen days to day 29", 0, camps);
        Due.same("fourteen nights", x.take(0), 14);
        Due.same("the last night", x.at(0, 28), 0);
        x.launch(0, 16);
        noPlan("it would end on day 30", 0);
        x.launch(0, 0);
        x.end(16);
        noPlan("it would take sixteen days", 0);
    }

    /** It may wait at either camp: the lower number told first decides, also against going on. */
    private static void lyingOverAtLowestNumbers() {
        x = new CanyonRafts();
        x.end(30);
        x.camp(20, false);
        x.camp(10, false);
        x.rapid(25, 500, 500);
        x.speed(9);
        x.water(3, 1, 500);
        x.trip(0, 0, 10, 15, 2);
        planIs("on to camp 0, then over there", 0, 1, 0, 0);
        x = new CanyonRafts();
        x.end(30);
        x.camp(10, false);
        x.camp(20, false);
        x.rapid(25, 500, 500);
        x.speed(9);
        x.water(3, 1, 500);
        x.trip(0, 0, 10, 15, 2);
        planIs("over at camp 0, then on", 0, 0, 0, 1);
    }

    private static void lowestNumbers() {
        x = new CanyonRafts();
        x.end(40);
        x.camp(20, false);
        x.camp(12, false);
        x.camp(8, false);
        x.camp(25, false);
        x.trip(0, 0, 20, 9, 0);
        planIs("two days at least", 0, 0);
        x.end(45);
        planIs("three days, the lowest first that still ends in three", 0, 0, 3);
        x.end(32);
        planIs("two days, camp 0", 0, 0);
        x.trip(0, 0, 20, 9, 0);
        x.night(1, 0, 0);
        planIs("camp 0 is taken: camp 1", 0, 1);
        x.end(46);
        noPlan("no camp within 20 miles of mile 46", 0);
    }

    private static void theEnd() {
        x = new CanyonRafts();
        x.end(20);
        x.camp(20, false);
        x.camp(25, false);
        x.camp(10, false);
        x.trip(0, 0, 10, 9, 2);
        planIs("to no camp at or behind the end", 0, 2);
        x.trip(0, 0, 60, 9, 2);
        planIs("a day is enough", 1);
        x.end(10);
        x.camp(10, false);
        planIs("the end at a camp's mile", 0);
        x = new CanyonRafts();
        x.end(250);
        for (int mile = 49; mile < 250; mile += 50) {
            x.camp(mile, false);
        }
        x.trip(0, 0, 50, 9, 2);
        planIs("the last mile of all", 0, 0, 1, 2, 3, 4);
    }

    private static void take() {
        x = new CanyonRafts();
        x.end(30);
        x.camp(20, false);
        x.camp(10, false);
        x.trip(0, 5, 10, 9, 2);
        x.night(0, 0, 0);
        x.night(0, 6, 1);
        Due.same("take", x.take(0), 2);
        Due.same("behind day 5", x.at(0, 5), 1);
        Due.same("behind day 6", x.at(0, 6), 0);
        Due.same("the other nights went", x.at(0, 0), NONE);
        Due.same("two nights", x.of(0, 5), 2);
        Due.same("undo", x.undo(), 6);
        Due.same("the night is back", x.at(0, 0), 0);
        Due.same("the other one too", x.at(0, 6), 1);
        Due.same("the taken one is gone", x.at(0, 5), NONE);
        x.end(60);
        noPlan("too far", 0);
        Due.same("a take without a plan changes nothing", x.of(0, 5), 2);
        x.end(10);
        Due.same("a plan without nights", x.take(0), 0);
        Due.same("no nights", x.of(0, 5), 0);
    }

    private static void calendar() {
        x = new CanyonRafts();
        Due.same("of none", x.calendar(0), 0);
        Due.same("a bit of none", x.calendar(1), BEYOND);
        x.end(20);
        x.camp(10, false);
        for (int t = 0; t < 3; t++) {
            x.trip(0, t / 2, 10, 2, 0);
        }
        for (int set : new int[] {8, 15, -1, MIN, MAX}) {
            Due.same("calendar(" + set + ")", x.calendar(set), BEYOND);
            Due.same("fill(" + set + ")", x.fill(set), BEYOND);
        }
        Due.same("of two for one camp", x.calendar(3), 1);
        Due.same("the third comes a day later", x.calendar(7), 2);
        Due.same("alone", x.calendar(2), 1);
        x.night(2, 0, 0);
        Due.same("one beside the set has the camp", x.calendar(3), 0);
        Due.same("nothing has changed", x.at(2, 0), 0);
        Due.same("no acts but the night", x.undo(), 5);
    }

    private static void calendarForgetsItsOwnNights() {
        x = new CanyonRafts();
        x.end(20);
        x.camp(10, false);
        x.trip(0, 0, 10, 2, 0);
        x.trip(0, 0, 10, 2, 0);
        x.night(1, 0, 0);
        Due.same("trip 1's night counts for nothing", x.calendar(3), 1);
        Due.same("but counts for trip 0 alone", x.calendar(1), 0);
        Due.same("trip 1 is there still", x.who(0, 0), 1);
        Due.same("fill(3)", x.fill(3), 1);
        Due.same("trip 0 is there now", x.who(0, 0), 0);
        Due.same("trip 1 has no nights", x.of(1, 5), 0);
        x.trip(0, 0, 9, 2, 0);
        x.trip(0, 0, 10, 2, 0);
        x.launch(0, 9);
        x.night(2, 0, 0);
        Due.same("trip 2 gets no plan, trip 3 the camp", x.fill(12), 1);
        Due.same("trip 3 is there", x.who(0, 0), 3);
        Due.same("trip 2 has no nights", x.of(2, 5), 0);
        x.end(30);
        x.night(0, 7, 0);
        Due.same("none gets a plan", x.fill(15), 0);
        for (int t = 0; t < 4; t++) {
            Due.same("no nights of trip " + t, x.of(t, 5), 0);
        }
    }

    private static void fill() {
        x = new CanyonRafts();
        Due.same("of none", x.fill(0), 0);
        Due.same("that is an act", x.undo(), 0);
        x.end(20);
        x.camp(10, false);
        x.camp(9, true);
        for (int t = 0; t < 10; t++) {
            x.trip(t == 1 ? 2 : 0, t / 3, t == 9 ? 9 : 11, 2, 0);
        }
        x.night(2, 29, 0);
        x.night(9, 29, 1);
        Due.same("fill(7)", x.fill(7), 2);
        Due.same("trip 0", x.at(0, 0), 0);
        Due.same("trip 1 is large", x.of(1, 5), 0);
        Due.same("trip 2", x.at(2, 0), 1);
        Due.same("trip 2's other night went", x.at(2, 29), NONE);
        Due.same("trip 9 is not of the set", x.at(9, 29), 1);
        Due.same("undo", x.undo(), 15);
        Due.same("trip 2 as before", x.at(2, 29), 0);
        Due.same("trip 0 as before", x.of(0, 5), 0);
        Due.same("fill(1023)", x.fill(1023), 6);
        Due.same("trip 9 got none", x.of(9, 5), 0);
        Due.same("fill(0)", x.fill(0), 0);
        Due.same("trip 0 keeps its night", x.at(0, 0), 0);
    }
}
