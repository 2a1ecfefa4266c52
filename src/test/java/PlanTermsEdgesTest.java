/** The edges that Terms 2 and 3 name: kinds, runnable rapids, nights, plans, and calendars. */
public final class PlanTermsEdgesTest {
    private static final int NONE = Due.NONE;
    private static final int OAR = 0;
    private static final int MOTOR = 1;
    private static final int LARGE = 2;
    private static final int GUIDED = 3;

    private PlanTermsEdgesTest() {
    }

    public static void main(String[] args) throws ReflectiveOperationException {
        Edge.runAll(PlanTermsEdgesTest.class);
    }

    private static void planIs(String what, CanyonRafts x, int trip, int... camps) {
        Due.same(what + ": days", x.plan(trip), camps.length + 1);
        for (int i = 0; i < camps.length; i++) {
            Due.same(what + ": behind day " + i, x.planned(trip, i), camps[i]);
        }
        Due.same(what + ": the last day", x.planned(trip, camps.length), -1);
    }

    private static void noPlan(String what, CanyonRafts x, int trip) {
        Due.same(what + ": no plan", x.plan(trip), NONE);
    }

    /** A river with camps at miles, none small; water 9 miles an hour, so that a day's wave is there by noon. */
    private static CanyonRafts river(int end, int... miles) {
        CanyonRafts x = new CanyonRafts();
        x.end(end);
        x.speed(9);
        for (int mile : miles) {
            x.camp(mile, false);
        }
        return x;
    }

    /** A rapid that runs only on some days. */
    private static void rapidOn(CanyonRafts x, int mile, int... days) {
        x.rapid(mile, 500, 500);
        for (int day : days) {
            x.water(day, 1, 500);
        }
    }

    /** "in one of its hours 8 to 17": a wave of hours 0 to 5 that ends in hour 7 or 8, of 12 to 17 from 17 or 18 on. */
    private static void terms2Hours8To17() {
        int[][] waves = {{2, 0, -1}, {3, 0, 8}, {5, 2, 17}, {6, 2, -1}, {8, 0, 8}, {9, 0, 9}, {17, 0, 17}, {18, 0, -1}};
        for (int[] w : waves) {
            CanyonRafts x = new CanyonRafts();
            x.speed(1);
            x.rapid(w[0], 500, 500);
            x.water(1, w[1], 500);
            Due.same("mile " + w[0] + ", quarter " + w[1], x.runs(0, 1, OAR), w[2]);
            x.end(w[0] + 1);
            x.trip(OAR, 1, 60, 1, 0);
            Due.same("a plan past it", x.plan(0), w[2] < 0 ? NONE : 1);
        }
        CanyonRafts x = new CanyonRafts();
        x.speed(9);
        x.rapid(1, 500, 500);
        x.water(1, 3, 500);
        x.water(1, 0, 500);
        Due.same("hours 0 to 5 and 18 to 23", x.runs(0, 1, OAR), -1);
    }

    /** "on a DAY": the first and the last DAY, and not the one beside it. */
    private static void terms2RunnableOnADay() {
        for (int day : new int[] {0, 1, 28, 29}) {
            CanyonRafts x = new CanyonRafts();
            x.speed(9);
            x.rapid(1, 500, 500);
            x.water(day, 2, 500);
            for (int other = 0; other < 30; other++) {
                Due.same("day " + other, x.runs(0, other, OAR), other == day ? 12 : -1);
            }
        }
    }

    /** "the water there is LEAST to MOST (for GUIDED ones: LEAST less 50 to MOST)". */
    private static void terms2LeastToMost() {
        int[] waters = {149, 150, 151, 199, 200, 201, 249, 250, 251};
        int[] least = {200, 200, 200, 150};
        for (int kind = OAR; kind <= GUIDED; kind++) {
            for (int water : waters) {
                CanyonRafts x = new CanyonRafts();
                x.speed(9);
                x.rapid(1, 200, 250);
                x.water(0, 1, water);
                boolean runs = water >= least[kind] && water <= 250;
                Due.same("kind " + kind + ", water " + water, x.runs(0, 0, kind), runs ? 8 : -1);
                x.end(2);
                x.trip(kind, 0, 2, 1, 0);
                Due.same("a plan", x.plan(0), runs ? 1 : NONE);
            }
        }
    }

    /** LEAST and MOST may be one, at both ends of all water; LEAST less 50 may be below 0. */
    private static void terms2TheLowestAndTheHighestWater() {
        int[][] runs = {{0, 0, 0, 1, 1}, {0, 0, 1, 0, 0}, {999, 999, 999, 1, 1}, {999, 999, 998, 0, 1},
            {999, 999, 949, 0, 1}, {999, 999, 948, 0, 0}, {50, 60, 0, 0, 1}, {51, 60, 0, 0, 0}, {49, 60, 0, 0, 1},
            {0, 999, 0, 1, 1}, {0, 999, 999, 1, 1}};
        for (int[] r : runs) {
            CanyonRafts x = new CanyonRafts();
            x.speed(9);
            x.rapid(1, r[0], r[1]);
            x.water(0, 1, r[2]);
            x.water(0, 2, r[2]);
            Due.same("oar", x.runs(0, 0, OAR), r[3] == 1 ? 8 : -1);
            Due.same("motor", x.runs(0, 0, MOTOR), r[3] == 1 ? 8 : -1);
            Due.same("large", x.runs(0, 0, LARGE), r[3] == 1 ? 8 : -1);
            Due.same("guided", x.runs(0, 0, GUIDED), r[4] == 1 ? 8 : -1);
        }
    }

    /** "LARGE ones camp at no SMALL CAMP": they alone; and they go past it. */
    private static void terms2LargeOnesCampAtNoSmallCamp() {
        for (int kind = OAR; kind <= GUIDED; kind++) {
            CanyonRafts x = river(20);
            x.camp(10, true);
            x.trip(kind, 0, 10, 5, 0);
            if (kind == LARGE) {
                noPlan("large", x, 0);
            } else {
                planIs("kind " + kind, x, 0, 0);
            }
            x.camp(10, false);
            planIs("kind " + kind + " with another camp", x, 0, kind == LARGE ? 1 : 0);
        }
        CanyonRafts x = river(30);
        x.camp(10, true);
        x.camp(15, false);
        x.trip(LARGE, 0, 15, 5, 0);
        planIs("past the small one", x, 0, 1);
    }

    /** "FREE .. if no other TRIP is there behind it": behind that DAY, not the one beside it; itself is no other. */
    private static void terms2FreeOnThatDay() {
        for (int taken = 4; taken <= 6; taken++) {
            CanyonRafts x = river(20, 10);
            x.trip(OAR, 5, 10, 5, 0);
            x.trip(OAR, 0, 10, 5, 0);
            x.night(1, taken, 0);
            Due.same("another behind day " + taken, x.plan(0), taken == 5 ? NONE : 2);
            x.night(1, taken, -1);
            x.night(0, taken, 0);
            Due.same("itself behind day " + taken, x.plan(0), 2);
        }
    }

    /** "from mile 0": a camp and the end that are PACE from there, and a mile more. */
    private static void terms2FromMile0() {
        CanyonRafts x = river(20, 10);
        x.trip(OAR, 0, 10, 5, 0);
        x.trip(OAR, 0, 20, 5, 0);
        x.trip(OAR, 0, 19, 5, 0);
        planIs("pace 10", x, 0, 0);
        planIs("pace 20: to the end at once", x, 1);
        planIs("pace 19: not at once", x, 2, 0);
        x = river(20, 11);
        x.trip(OAR, 0, 10, 5, 0);
        noPlan("a mile more", x, 0);
    }

    /** "on the DAY of LAUNCH": the first day's rapid is run on that DAY, 0 to 29. */
    private static void terms2OnTheDayOfLaunch() {
        for (int launch : new int[] {0, 1, 28, 29}) {
            CanyonRafts x = river(10);
            rapidOn(x, 5, launch);
            for (int day = 0; day < 30; day++) {
                x.trip(OAR, day, 10, 1, 0);
                Due.same("launch on day " + day, x.plan(0), day == launch ? 1 : NONE);
                x.undo();
            }
        }
    }

    /** "to a CAMP at a mile b above a": a mile more is enough; the same mile is not above, nor is one behind. */
    private static void terms2ToACampAbove() {
        CanyonRafts x = river(20, 10, 11);
        rapidOn(x, 15, 2);
        x.trip(OAR, 0, 10, 5, 0);
        planIs("a mile more", x, 0, 0, 1);
        x = river(20, 10, 10);
        rapidOn(x, 15, 2);
        x.trip(OAR, 0, 10, 5, 0);
        noPlan("the same mile", x, 0);
        x = river(20, 10, 9);
        rapidOn(x, 15, 2);
        x.trip(OAR, 0, 11, 5, 0);
        planIs("from mile 9 to 10", x, 0, 1, 0);
        x.trip(OAR, 0, 11, 5, 0);
        x.night(1, 0, 1);
        noPlan("not from mile 10 to 9", x, 0);
    }

    /** "a and PACE at most": from camp to camp, and from a camp to THE END, PACE 1 and PACE 60 too. */
    private static void terms2APaceAtMost() {
        for (int pace : new int[] {1, 2, 59, 60}) {
            CanyonRafts x = river(3 * pace, pace, 2 * pace);
            x.trip(OAR, 0, pace, 3, 0);
            planIs("pace " + pace, x, 0, 0, 1);
            x.end(3 * pace + 1);
            noPlan("the end a mile on", x, 0);
            x = river(3 * pace + 1, pace, 2 * pace + 1);
            x.trip(OAR, 0, pace, 3, 0);
            noPlan("the second camp a mile on", x, 0);
            x = river(3 * pace + 1, pace + 1, 2 * pace + 1);
            x.trip(OAR, 0, pace, 3, 0);
            noPlan("the first camp a mile on", x, 0);
            x = river(2 * pace + 1, pace, pace + 1);
            x.trip(OAR, 0, pace, 3, 0);
            planIs("a mile too many for two days", x, 0, 0, 1);
        }
    }

    private static void noPlanIf(boolean none, String what, CanyonRafts x, int trip, int... camps) {
        if (none) {
            noPlan(what, x, trip);
        } else {
            planIs(what, x, trip, camps);
        }
    }

    /** THE END itself: the last mile of all, and the first. */
    private static void terms2TheFirstAndTheLastEnd() {
        CanyonRafts x = river(1, 1, 2);
        x.trip(OAR, 0, 1, 1, 0);
        planIs("mile 1", x, 0);
        x.end(2);
        noPlan("mile 2, food for one day", x, 0);
        x = river(250, 60, 120, 180, 190, 249);
        x.trip(OAR, 0, 60, 5, 0);
        planIs("mile 250", x, 0, 0, 1, 2, 3);
    }

    /** "lies over (stays at the CAMP where it is)": at mile 0 there is none. */
    private static void terms2ItLiesOverOnlyAtACamp() {
        CanyonRafts x = river(10);
        rapidOn(x, 5, 1);
        x.trip(OAR, 0, 10, 5, 2);
        noPlan("at mile 0", x, 0);
        x.camp(4, false);
        planIs("at the camp ahead of the rapid, a day without lying over", x, 0, 0);
    }

    /** "it lies over as often as it may at most": 0, 1 and 2 times; one more is none. */
    private static void terms2AsOftenAsItMay() {
        for (int over = 0; over <= 2; over++) {
            for (int open = 1; open <= 4; open++) {
                CanyonRafts x = river(20, 10);
                rapidOn(x, 15, open);
                x.trip(OAR, 0, 10, 15, over);
                if (open - 1 <= over) {
                    planIs(over + " times, open on day " + open, x, 0, new int[open]);
                } else {
                    noPlan(over + " times, open on day " + open, x, 0);
                }
            }
        }
    }

    /** Two times may be at two camps; three times are none, wherever they are. */
    private static void terms2LyingOverAtTwoCamps() {
        for (int over = 0; over <= 2; over++) {
            CanyonRafts x = river(30, 10, 20);
            rapidOn(x, 15, 2);
            x.rapid(25, 600, 600);
            x.water(4, 2, 600);
            x.trip(OAR, 0, 10, 15, over);
            noPlanIf(over < 2, over + " times", x, 0, 0, 0, 1, 1);
            x.undo();
            x.water(4, 2, 100);
            x.water(5, 2, 600);
            x.trip(OAR, 0, 10, 15, over);
            noPlan("three times are needed", x, 0);
        }
    }

    /** It may not stay a third time, though a way without lying over is at the same camp as late as that. */
    private static void terms2NotOnceMoreWhereOthersComeLate() {
        CanyonRafts x = river(40, 30, 6, 12, 18, 24);
        rapidOn(x, 35, 5);
        int[][] plans = {{1, 2, 3, 4, 0}, {1, 1, 2, 3, 0}, {1, 1, 1, 2, 0}};
        for (int over = 0; over <= 2; over++) {
            x.trip(OAR, 0, 30, 15, over);
            planIs("five nights, over " + over, x, over, plans[over]);
        }
    }

    /** "all CAMPS, also where it lies over, are FREE": on the day it comes, and on each day it stays. */
    private static void terms2FreeAlsoWhereItLiesOver() {
        for (int taken = 0; taken < 4; taken++) {
            CanyonRafts x = river(20, 10);
            rapidOn(x, 15, 3);
            x.trip(OAR, 0, 10, 15, 2);
            x.trip(OAR, 0, 10, 15, 2);
            x.night(1, taken, 0);
            noPlanIf(taken < 3, "taken behind day " + taken, x, 0, 0, 0, 0);
        }
    }

    /** A rapid at the camp's mile or below it is not run by lying over. */
    private static void terms2LyingOverRunsNoRapid() {
        CanyonRafts x = river(20, 10);
        rapidOn(x, 10, 0);
        rapidOn(x, 9);
        x.water(1, 1, 100);
        x.rapid(15, 600, 600);
        x.water(2, 2, 600);
        x.trip(OAR, 0, 10, 15, 2);
        planIs("rapids at miles 9 and 10 open on day 0 only", x, 0, 0, 0);
    }

    /** "All RAPIDS at miles above a up to b": not at a, a mile above it, at b, not a mile behind b. */
    private static void terms2RapidsAboveAUpToB() {
        int[][] rapids = {{10, 1, 0}, {11, 0, 0}, {19, 0, 0}, {20, 0, 0}, {21, 1, 1}};
        for (int[] r : rapids) {
            CanyonRafts x = river(30, 10, 20);
            rapidOn(x, r[0], 0, 2);
            x.trip(OAR, 0, 10, 3, 0);
            noPlanIf(r[1] == 0, "closed on day 1 at mile " + r[0], x, 0, 0, 1);
        }
        for (int mile : new int[] {1, 9, 10, 11}) {
            CanyonRafts x = river(20, 10);
            rapidOn(x, mile, 1);
            x.trip(OAR, 0, 10, 2, 0);
            noPlanIf(mile <= 10, "closed on day 0 at mile " + mile, x, 0, 0);
        }
    }

    /** "(on the last DAY below THE END)": a mile below it is run, at it is not. */
    private static void terms2RapidsOfTheLastDay() {
        for (int mile : new int[] {10, 11, 19, 20, 21}) {
            CanyonRafts x = river(20, 10);
            rapidOn(x, mile, 0);
            x.trip(OAR, 0, 10, 2, 0);
            noPlanIf(mile == 11 || mile == 19, "closed on day 1 at mile " + mile, x, 0, 0);
        }
    }

    /** "RUNNABLE on that DAY": of two rapids each on its day; the day beside it does not do. */
    private static void terms2RunnableOnThatDay() {
        for (int first = 3; first <= 5; first++) {
            for (int second = 4; second <= 6; second++) {
                CanyonRafts x = river(20, 10);
                rapidOn(x, 5, first);
                x.rapid(15, 600, 600);
                x.water(second, 2, 600);
                x.trip(OAR, 4, 10, 2, 2);
                noPlanIf(first != 4 || second != 5, "open on days " + first + " and " + second, x, 0, 0);
            }
        }
    }

    /** "All RAPIDS": one closed among ten is enough, the first and the last. */
    private static void terms2AllRapids() {
        for (int closed = 0; closed < 10; closed++) {
            CanyonRafts x = river(20);
            for (int r = 0; r < 10; r++) {
                x.rapid(1 + r, r == closed ? 101 : 100, 999);
            }
            x.trip(OAR, 0, 20, 1, 0);
            x.trip(GUIDED, 0, 20, 1, 0);
            noPlan("rapid " + closed + " is closed", x, 0);
            planIs("guided ones run it", x, 1);
        }
    }

    /** "takes as many DAYS as FOOD at most": FOOD 1 to 15. */
    private static void terms2AsManyDaysAsFood() {
        for (int days = 1; days <= 15; days++) {
            CanyonRafts x = river(days);
            int[] camps = new int[days - 1];
            for (int c = 0; c < days - 1; c++) {
                x.camp(c + 1, false);
                camps[c] = c;
            }
            x.trip(OAR, 0, 1, days, 0);
            planIs("food for just as many days", x, 0, camps);
            if (days > 1) {
                x.trip(OAR, 0, 1, days - 1, 0);
                noPlan("food for a day less", x, 1);
            }
        }
    }

    /** A river that wants sixteen days: the most FOOD is not enough, and all fifteen days are tried. */
    private static void terms2SixteenDaysAreTooMany() {
        CanyonRafts x = river(16);
        for (int c = 1; c < 15; c++) {
            x.camp(c, false);
        }
        x.trip(OAR, 0, 1, 15, 0);
        x.trip(OAR, 0, 1, 15, 2);
        noPlan("a mile too far", x, 0);
        noPlan("lying over does not help", x, 1);
        x.end(15);
        Due.same("a mile less", x.plan(0), 15);
    }

    /** Days where it lies over want FOOD too. */
    private static void terms2LyingOverWantsFood() {
        CanyonRafts x = river(20, 10);
        rapidOn(x, 15, 3);
        x.trip(OAR, 0, 10, 4, 2);
        x.trip(OAR, 0, 10, 3, 2);
        planIs("food for four", x, 0, 0, 0, 0);
        noPlan("food for three", x, 1);
    }

    /** "ends on DAY 29 at latest": with each number of days the last launch that does, and the first that does not. */
    private static void terms2EndsOnDay29AtLatest() {
        for (int days = 1; days <= 15; days++) {
            CanyonRafts x = river(days);
            for (int c = 1; c < days; c++) {
                x.camp(c, false);
            }
            x.trip(OAR, 30 - days, 1, 15, 2);
            Due.same(days + " days to day 29", x.plan(0), days);
            if (days > 1) {
                x.trip(OAR, 31 - days, 1, 15, 2);
                noPlan(days + " days to day 30", x, 1);
            }
        }
        CanyonRafts x = river(20, 10);
        rapidOn(x, 15, 29);
        x.trip(OAR, 27, 10, 15, 2);
        planIs("it lies over and ends on day 29", x, 0, 0, 0);
        x.water(29, 1, 100);
        noPlan("it would open on day 30", x, 0);
    }

    /** "THE PLAN: that of the fewest DAYS": ahead of the lowest numbers. */
    private static void terms2TheFewestDays() {
        CanyonRafts x = river(20, 5, 11, 10);
        x.trip(OAR, 0, 10, 15, 2);
        planIs("camp 2, not camp 0 and on", x, 0, 2);
        x.trip(OAR, 0, 20, 15, 2);
        planIs("no camp at all", x, 1);
    }

    /** "of several the first told night by night, by CAMPS' numbers": the first night decides, then the second. */
    private static void terms2TheFirstToldNightByNight() {
        CanyonRafts x = river(30, 20, 19, 11, 10);
        x.trip(OAR, 0, 11, 15, 0);
        planIs("2 then 0, not 3 then 1", x, 0, 2, 0);
        x = river(30, 19, 20, 10, 9);
        x.trip(OAR, 0, 11, 15, 0);
        planIs("behind 2 both do: 0", x, 0, 2, 0);
        x.trip(OAR, 0, 10, 15, 0);
        planIs("from 2 only camp 1 does", x, 1, 2, 1);
        x.night(1, 0, 2);
        x.trip(OAR, 5, 10, 15, 0);
        planIs("a day where none is taken", x, 2, 2, 1);
    }

    /** A low first camp that leads to no end in as few days is not told. */
    private static void terms2ALowNumberThatLeadsNowhere() {
        CanyonRafts x = river(30, 5, 10, 20);
        x.trip(OAR, 0, 10, 15, 0);
        planIs("camp 0 would take a day more", x, 0, 1, 2);
        x = river(30, 10, 10, 20);
        x.trip(OAR, 0, 10, 15, 0);
        x.trip(OAR, 0, 10, 15, 0);
        x.night(1, 0, 0);
        planIs("camp 0 is taken", x, 0, 1, 2);
        x.night(1, 0, 1);
        planIs("camp 1 is taken", x, 0, 0, 2);
    }

    /** Lying over is told by the camp's number as going on is: lower first, both ways. */
    private static void terms2LyingOverIsToldByItsNumber() {
        CanyonRafts x = river(30, 10, 20);
        rapidOn(x, 25, 3);
        x.trip(OAR, 0, 10, 15, 1);
        planIs("it stays at camp 0 first", x, 0, 0, 0, 1);
        x = river(30, 20, 10);
        rapidOn(x, 25, 3);
        x.trip(OAR, 0, 10, 15, 1);
        planIs("it goes to camp 0 first", x, 0, 1, 0, 0);
    }

    /** Of lower numbers one that wants no lying over more than it may. */
    private static void terms2TheFirstThatItMay() {
        CanyonRafts x = river(40, 10, 20, 30);
        rapidOn(x, 35, 5);
        x.trip(OAR, 0, 10, 15, 2);
        planIs("twice at camp 0", x, 0, 0, 0, 0, 1, 2);
        x.trip(OAR, 0, 10, 15, 2);
        x.night(1, 2, 0);
        planIs("once at camp 0, once at camp 1", x, 0, 0, 0, 1, 1, 2);
        x.night(1, 1, 0);
        planIs("twice at camp 1", x, 0, 0, 1, 1, 1, 2);
        x.night(1, 2, 1);
        planIs("twice at camp 2", x, 0, 0, 1, 2, 2, 2);
    }

    /** "all TRIPS of a set get THE PLAN, one behind the other by numbers": the lower number gets the camp. */
    private static void terms3ByNumbers() {
        CanyonRafts x = river(20, 10, 10);
        for (int t = 0; t < 10; t++) {
            x.trip(OAR, 0, 10, 2, 0);
        }
        Due.same("two camps, ten trips", x.calendar(1023), 2);
        Due.same("fill", x.fill(1023), 2);
        Due.same("trip 0", x.at(0, 0), 0);
        Due.same("trip 1", x.at(1, 0), 1);
        for (int t = 2; t < 10; t++) {
            Due.same("trip " + t, x.of(t, 5), 0);
        }
        Due.same("the last three", x.fill(512 | 256 | 128), 0);
        x.fill(3);
        x.night(0, 0, -1);
        x.night(1, 0, -1);
        Due.same("the last three again", x.fill(512 | 256 | 128), 2);
        Due.same("trip 7", x.at(7, 0), 0);
        Due.same("trip 8", x.at(8, 0), 1);
        Due.same("trip 9", x.of(9, 5), 0);
    }

    /** "with NIGHTS of those that got one ahead of them": one that got none is in nobody's way. */
    private static void terms3ThoseThatGotOneAhead() {
        CanyonRafts x = river(30, 10, 20);
        x.trip(OAR, 0, 10, 2, 0);
        x.trip(OAR, 0, 10, 3, 0);
        Due.same("trip 0 has too little food", x.fill(3), 1);
        Due.same("trip 0", x.of(0, 5), 0);
        Due.same("trip 1", x.at(1, 0), 0);
        x = river(30, 10, 20);
        x.trip(OAR, 0, 10, 3, 0);
        x.trip(OAR, 1, 10, 3, 0);
        x.trip(OAR, 0, 10, 3, 0);
        Due.same("a day behind the first", x.fill(7), 2);
        Due.same("trip 1", x.at(1, 1), 0);
        Due.same("trip 2", x.of(2, 5), 0);
    }

    /** "and of all that are not of the set": whether their numbers are lower or higher. */
    private static void terms3ThoseThatAreNotOfTheSet() {
        for (int other = 0; other < 3; other++) {
            CanyonRafts x = river(20, 10);
            for (int t = 0; t < 3; t++) {
                x.trip(OAR, 0, 10, 2, 0);
            }
            x.night(other, 0, 0);
            for (int set = 0; set < 8; set++) {
                boolean inIt = (set >> other & 1) == 1;
                Due.same("set " + set + ", the camp is trip " + other + "'s", x.calendar(set), inIt ? 1 : 0);
            }
            x.night(other, 0, -1);
            x.night(other, 1, 0);
            Due.same("a night behind another day", x.calendar(2), 1);
        }
    }

    /** "(NIGHTS that those of the set had count for nothing)", neither for others nor if they get no plan. */
    private static void terms3NightsOfTheSetCountForNothing() {
        CanyonRafts x = river(20, 10);
        x.trip(OAR, 0, 10, 2, 0);
        x.trip(OAR, 0, 9, 2, 0);
        x.night(1, 0, 0);
        Due.same("trip 1 alone gets none", x.calendar(2), 0);
        Due.same("trip 0 alone is in its way", x.calendar(1), 0);
        Due.same("both: trip 0 gets the camp", x.calendar(3), 1);
        Due.same("a calendar is only asked", x.who(0, 0), 1);
        Due.same("fill", x.fill(3), 1);
        Due.same("trip 0 is there", x.who(0, 0), 0);
        Due.same("trip 1 has none", x.of(1, 5), 0);
        x.undo();
        Due.same("undone", x.who(0, 0), 1);
    }
}
