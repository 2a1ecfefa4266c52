/** The edges that the Terms name: findings, the river (1), the way out (3), lots (4), sheets (5). */
public final class TermsEdgesTest {
    private static final int BEYOND = Due.BEYOND;
    private static final int NONE = Due.NONE;

    private TermsEdgesTest() {
    }

    public static void main(String[] args) throws ReflectiveOperationException {
        Edge.runAll(TermsEdgesTest.class);
    }

    /** "FINDINGS are answers below -99999": each by its number. */
    private static void terms0EachFindingHasItsNumber() {
        CanyonRafts x = new CanyonRafts();
        x.camp(9, true);
        x.trip(0, 0, 1, 1, 0);
        x.trip(2, 0, 1, 1, 0);
        x.night(0, 0, 0);
        Due.same("BEYOND", x.end(0), -100001);
        Due.same("MISSING", x.let(0, 0), -100002);
        Due.same("SIZE", x.near(0, 0, 0), -100003);
        Due.same("KIND", x.night(1, 1, 0), -100004);
        for (int i = 0; i < 8; i++) {
            x.landing(9);
        }
        Due.same("FULL", x.landing(9), -100005);
        Due.same("NONE", x.at(1, 0), -100006);
        Due.same("TAKEN", x.night(1, 0, 0), -100007);
        Due.same("seven findings", x.all(5), 7);
    }

    /** The desks that the edge tests begin with are as told: no call of theirs was refused. */
    private static void terms0TheTestsDesksStand() {
        Due.same("empty", Desks.empty().call("all", 5), 0);
        Due.same("one", Desks.one().call("all", 5), 0);
        Due.same("some", Desks.some().call("all", 5), 0);
        Due.same("full", Desks.full().call("all", 5), 0);
    }

    /** "An object is used for at most 512 calls": the 512th is answered as the first. */
    private static void terms0AnObjectAnswers512Calls() {
        CanyonRafts x = new CanyonRafts();
        for (int call = 1; call <= 511; call++) {
            Due.same("call " + call, x.end(0), BEYOND);
        }
        Due.same("call 512", x.all(5), 511);
        x = new CanyonRafts();
        for (int call = 1; call <= 491; call++) {
            x.end(call % 250 + 1);
        }
        for (int left = 19; left >= 0; left--) {
            Due.same("undo", x.undo(), left);
        }
        Due.same("call 512", x.end(1), 471 % 250 + 1);
    }

    /** THE END is at "200 at first". */
    private static void terms1TheEndIs200AtFirst() {
        CanyonRafts x = new CanyonRafts();
        x.camp(50, false);
        x.camp(100, false);
        x.camp(140, false);
        x.trip(0, 0, 60, 15, 0);
        Due.same("60 miles from camp 2", x.plan(0), 4);
        x.trip(0, 0, 59, 15, 0);
        Due.same("59 do not do", x.plan(1), NONE);
        Due.same("end", x.end(9), 200);
    }

    /** "CAMPS .. at or behind THE END are there": they have numbers, and can be asked for. */
    private static void terms1CampsAtOrBehindTheEndAreThere() {
        for (int mile : new int[] {99, 100, 101, 249}) {
            CanyonRafts x = new CanyonRafts();
            x.end(100);
            Due.same("a camp", x.camp(mile, false), 0);
            Due.same("it is there", x.all(0), 1);
            x.trip(0, 0, 60, 15, 0);
            Due.same("nobody is there", x.who(0, 0), NONE);
            Due.same("no finding is named for a night there", x.night(0, 0, 0), -1);
            Due.same("who", x.who(0, 0), 0);
        }
    }

    /** "but no TRIP comes to them": no PLAN goes over a camp at or behind THE END. */
    private static void terms1NoPlanComesToCampsAtOrBehindTheEnd() {
        for (int mile : new int[] {98, 99, 100, 101, 130}) {
            CanyonRafts x = new CanyonRafts();
            x.camp(50, false);
            x.camp(mile, false);
            x.end(100);
            x.rapid(99, 500, 500);
            x.speed(9);
            x.trip(0, 0, 50, 15, 2);
            x.water(2, 0, 500);
            Due.same("the last rapid opens on day 2", x.plan(0), 3);
            Due.same("camp 0 first", x.planned(0, 0), 0);
            Due.same("it lies over", x.planned(0, 1), 0);
            x.trip(0, 0, 50, 15, 0);
            Due.same("it may not lie over", x.plan(1), mile == 98 ? 3 : NONE);
        }
    }

    /** "RAPIDS .. at or behind THE END are there, but no TRIP comes to them": they are not run, but told. */
    private static void terms1RapidsAtOrBehindTheEndAreNotRun() {
        for (int mile : new int[] {19, 20, 21}) {
            CanyonRafts x = new CanyonRafts();
            x.end(20);
            x.rapid(mile, 500, 500);
            x.trip(0, 0, 20, 1, 0);
            Due.same("a plan past mile " + mile, x.plan(0), mile < 20 ? NONE : 1);
            Due.same("it is not runnable", x.runs(0, 0, 0), -1);
            x.water(0, 0, 500);
            Due.same("it is", x.runs(0, 0, 0), 8);
            Due.same("it is there", x.all(1), 1);
        }
    }

    /** "LANDINGS at or behind THE END are there, but no TRIP comes to them": they are no way out. */
    private static void terms1LandingsAtOrBehindTheEndAreNoWayOut() {
        for (int mile : new int[] {99, 100, 101, 250}) {
            CanyonRafts x = new CanyonRafts();
            x.end(100);
            x.trip(0, 0, 1, 1, 0);
            Due.same("a landing", x.landing(mile), 1);
            Due.same("it is there", x.all(2), 1);
            Due.same("hurt", x.hurt(0, 90), mile < 100 ? 108 : NONE);
            Due.same("hurt at it", x.hurt(0, mile), mile < 100 ? 0 : NONE);
            x.landing(80);
            Due.same("hurt, with one upstream", x.hurt(0, 90), mile < 100 ? 108 : 600);
            x.end(mile == 250 ? 250 : mile + 1);
            Due.same("the end behind it", x.hurt(0, 90), mile == 250 ? 600 : (mile - 90) * 12);
        }
    }

    /** A landing at mile 0 is ahead of each end; one at mile 250 of none. */
    private static void terms1TheFirstAndTheLastLanding() {
        CanyonRafts x = new CanyonRafts();
        x.trip(0, 0, 1, 1, 0);
        x.landing(250);
        x.end(250);
        Due.same("mile 250 is at the end at best", x.hurt(0, 250), NONE);
        x.landing(0);
        x.end(1);
        Due.same("mile 0", x.hurt(0, 0), 0);
        Due.same("a mile behind it", x.hurt(0, 1), 60);
    }

    /** "by quarters of a DAY (0 to 3: hours 0 to 5, 6 to 11, and so on)", on the first DAY and the last. */
    private static void terms1AQuarterHasSixHours() {
        for (int day : new int[] {0, 1, 29}) {
            CanyonRafts x = new CanyonRafts();
            for (int quarter = 0; quarter < 4; quarter++) {
                x.water(day, quarter, 10 + quarter);
            }
            for (int hour = 0; hour < 24; hour++) {
                Due.same("day " + day + ", hour " + hour, x.waterAt(0, day, hour), 10 + hour / 6);
            }
            if (day > 0) {
                Due.same("the hour ahead", x.waterAt(0, day - 1, 23), 100);
            }
            if (day < 29) {
                Due.same("the hour behind", x.waterAt(0, day + 1, 0), 100);
            }
        }
    }

    /** "m by SPEED, cut": at each speed the last mile without an hour, and the first with one; and so on. */
    private static void terms1TheWaveIsMilesBySpeedCut() {
        for (int speed = 1; speed <= 9; speed++) {
            CanyonRafts x = new CanyonRafts();
            x.speed(speed);
            x.water(10, 0, 7);
            for (int hours = 1; hours * speed <= 100; hours++) {
                int day = 10 + (5 + hours) / 24;
                int hour = (5 + hours) % 24;
                Due.same("hour 5 comes late", x.waterAt(hours * speed, day, hour), 7);
                Due.same("a mile less", x.waterAt(hours * speed - 1, day, hour), 100);
                int first = 10 + hours / 24;
                Due.same("hour 0 comes late", x.waterAt(hours * speed, first, hours % 24), 7);
                Due.same("an hour more is the day ahead", x.waterAt((hours + 1) * speed, first, hours % 24), 100);
            }
        }
    }

    /** At first SPEED is 4. */
    private static void terms1SpeedIs4AtFirst() {
        CanyonRafts x = new CanyonRafts();
        x.water(5, 0, 7);
        Due.same("mile 3", x.waterAt(3, 5, 6), 100);
        Due.same("mile 4", x.waterAt(4, 5, 6), 7);
        Due.same("speed", x.speed(1), 4);
    }

    /** "ahead of hour 0 of DAY 0 it is that of this hour": of hour 0, not of the hour that is asked for. */
    private static void terms1AheadOfHour0OfDay0() {
        CanyonRafts x = new CanyonRafts();
        x.speed(1);
        x.water(0, 0, 7);
        x.water(29, 3, 8);
        Due.same("an hour ahead", x.waterAt(1, 0, 0), 7);
        Due.same("250 hours ahead", x.waterAt(250, 0, 0), 7);
        Due.same("in another quarter", x.waterAt(24, 0, 23), 7);
        Due.same("on another day, an hour ahead", x.waterAt(250, 10, 9), 7);
        Due.same("hour 0 itself", x.waterAt(250, 10, 10), 7);
        Due.same("hour 5", x.waterAt(250, 10, 15), 7);
        Due.same("hour 6", x.waterAt(250, 10, 16), 100);
        Due.same("the last hour of all", x.waterAt(0, 29, 23), 8);
    }

    /** "12 a mile downstream, 60 a mile upstream (of MOTOR and GUIDED ones 20)": none, one, and the most miles. */
    private static void terms3MinutesAMile() {
        int[] up = {60, 20, 60, 20};
        for (int kind = 0; kind < 4; kind++) {
            CanyonRafts x = new CanyonRafts();
            x.end(250);
            x.trip(kind, 0, 1, 1, 0);
            x.landing(100);
            Due.same("there", x.hurt(0, 100), 0);
            Due.same("a mile down", x.hurt(0, 99), 12);
            Due.same("a mile up", x.hurt(0, 101), up[kind]);
            Due.same("100 miles down", x.hurt(0, 0), 1200);
            Due.same("150 miles up", x.hurt(0, 250), 150 * up[kind]);
            x = new CanyonRafts();
            x.end(250);
            x.trip(kind, 0, 1, 1, 0);
            x.landing(249);
            Due.same("249 miles down", x.hurt(0, 0), 2988);
            x = new CanyonRafts();
            x.trip(kind, 0, 1, 1, 0);
            x.landing(0);
            Due.same("250 miles up", x.hurt(0, 250), 250 * up[kind]);
        }
    }

    /** "the fewest minutes to a LANDING": not the fewest miles; as many both ways; of 8 landings the last. */
    private static void terms3TheFewestMinutes() {
        CanyonRafts x = new CanyonRafts();
        x.trip(0, 0, 1, 1, 0);
        x.trip(1, 0, 1, 1, 0);
        x.landing(100);
        x.landing(106);
        Due.same("1 up or 5 down: both 60", x.hurt(0, 101), 60);
        Due.same("2 up or 4 down", x.hurt(0, 102), 48);
        Due.same("by motor 1 up", x.hurt(1, 101), 20);
        Due.same("by motor 2 up, 40, or 4 down, 48", x.hurt(1, 102), 40);
        Due.same("by motor 3 up, 60, or 3 down, 36", x.hurt(1, 103), 36);
        for (int i = 0; i < 5; i++) {
            x.landing(199);
        }
        Due.same("the 8th", x.landing(102), 8);
        Due.same("1 down", x.hurt(0, 101), 12);
    }

    /** Three applicants with 64 numbers together: 0 is the first's, 1 to 62 the second's, 63 the third's. */
    private static CanyonRafts lots() {
        CanyonRafts x = new CanyonRafts();
        x.applicant(1);
        x.applicant(62);
        x.applicant(1);
        return x;
    }

    /** "have as many numbers each as their WEIGHT": the first and the last number of each. */
    private static void terms4AsManyNumbersAsTheirWeight() {
        Due.same("0 is applicant 0's", lots().drawn(-59267453, 0), 0);
        Due.same("1 is applicant 1's", lots().drawn(-404969853, 0), 1);
        Due.same("65535 modulo 64 is 63, applicant 2's", lots().drawn(286434947, 0), 2);
        CanyonRafts x = new CanyonRafts();
        x.applicant(1);
        x.applicant(63);
        Due.same("63 is applicant 1's", x.drawn(286434947, 0), 1);
        x = new CanyonRafts();
        x.applicant(2);
        x.applicant(62);
        Due.same("1 is applicant 0's", x.drawn(-404969853, 0), 0);
    }

    /** "x without its lowest 16 bits, as a number of 16 bits without sign": 0, 32767, 32768, 65535; none of the lowest. */
    private static void terms4ANumberOf16BitsWithoutSign() {
        int[][] seeds = {{-59267453, 0}, {-115164386, 0}, {-1861048701, 2}, {-1916945634, 2}, {2088216195, 0},
            {2032319262, 0}, {286434947, 2}, {230538014, 2}};
        for (int[] seed : seeds) {
            Due.same("seed " + seed[0], lots().drawn(seed[0], 0), seed[1]);
        }
        CanyonRafts x = new CanyonRafts();
        x.applicant(99);
        x.applicant(99);
        x.applicant(2);
        Due.same("65535 modulo 200 is 135", x.drawn(286434947, 0), 1);
        Due.same("32768 modulo 200 is 168", x.drawn(2088216195, 0), 1);
        Due.same("32767 modulo 200 is 167", x.drawn(-1861048701, 0), 1);
        x.weigh(0, 35);
        Due.same("65535 modulo 136 is 119", x.drawn(286434947, 0), 1);
        x.weigh(0, 98);
        Due.same("32768 modulo 199 is 132", x.drawn(2088216195, 0), 1);
        x.weigh(1, 34);
        Due.same("32768 modulo 134 is 72", x.drawn(2088216195, 0), 0);
    }

    /** "(an int, wrapping)": the lowest and the highest seed; numbers 32768, 15929, 48697 come first. */
    private static void terms4TheNumbersWrap() {
        CanyonRafts x = new CanyonRafts();
        x.applicant(57);
        x.applicant(1);
        x.applicant(6);
        Due.same("32768 modulo 64 is 0", x.drawn(Edge.MIN, 0), 0);
        Due.same("15929 modulo 64 is 57", x.drawn(Edge.MAX, 0), 1);
        Due.same("48697 modulo 64 is 57", x.drawn(-1, 0), 1);
        Due.same("21468 modulo 7 is 6", x.drawn(Edge.MIN, 1), 2);
        Due.same("37177 modulo 63 is 7", x.drawn(Edge.MAX, 1), 0);
        Due.same("4409 modulo 63 is 62", x.drawn(-1, 1), 2);
    }

    /** "whose it is, is drawn, and is left no more; till all are": from one applicant to twelve. */
    private static void terms4TillAllAre() {
        for (int n = 1; n <= 12; n++) {
            CanyonRafts x = new CanyonRafts();
            for (int a = 0; a < n; a++) {
                x.applicant(a % 2 == 0 ? 99 : 1);
            }
            int seen = 0;
            for (int i = 0; i < n; i++) {
                seen |= 1 << x.drawn(12345, i);
            }
            Due.same(n + " are drawn", seen, (1 << n) - 1);
            Due.same("no number " + n, x.drawn(12345, n), BEYOND);
        }
    }

    /** "A NUMBER below all WEIGHTS of those that are left": by seed 0 the numbers are 0, 54236, 42756. */
    private static void terms4ThoseThatAreLeft() {
        CanyonRafts x = lots();
        Due.same("0", x.drawn(0, 0), 0);
        Due.same("54236 modulo 63 is 56", x.drawn(0, 1), 1);
        Due.same("the last", x.drawn(0, 2), 2);
        x.weigh(1, 56);
        x.weigh(2, 7);
        Due.same("56 is the first of applicant 2", x.drawn(0, 1), 2);
        x.weigh(1, 57);
        x.weigh(2, 6);
        Due.same("56 is the last of applicant 1", x.drawn(0, 1), 1);
    }

    /** "SHEETS 0 to 3 are rows of up to 40 numbers of 8, 16 or 32 bits": all four, full, at once. */
    private static void terms5FourSheetsOf40Numbers() {
        CanyonRafts x = new CanyonRafts();
        int[] bits = {8, 16, 32, 8};
        for (int s = 0; s < 4; s++) {
            Due.same("sheet " + s, x.sheet(s, bits[s], 40), 40);
            for (int i = 0; i < 40; i++) {
                Due.same("put", x.put(s, i, 30 * s + i % 30), 0);
            }
        }
        Due.same("no sheet 4", x.sheet(4, 8, 40), BEYOND);
        Due.same("not 41", x.sheet(3, 8, 41), BEYOND);
        for (int s = 0; s < 4; s++) {
            Due.same("let " + s, x.let(0, s), 40);
            for (int i = 0; i < 40; i++) {
                Due.same("number " + i, x.waterAt(0, i / 4, i % 4 * 6), 30 * s + i % 30);
            }
        }
    }
}
