/** The edges of promises 1 to 9: a new object, and the river. */
public final class RiverEdgesTest {
    private static final int BEYOND = Due.BEYOND;
    private static final int FULL = Due.FULL;
    private static final int SIZE = Due.SIZE;

    private RiverEdgesTest() {
    }

    public static void main(String[] args) throws ReflectiveOperationException {
        Edge.runAll(RiverEdgesTest.class);
    }

    /** "No CAMPS, RAPIDS, LANDINGS, TRIPS, APPLICANTS". */
    private static void promise01ANewObjectHasNothing() {
        CanyonRafts x = new CanyonRafts();
        for (int what = 0; what <= 5; what++) {
            Due.same("all(" + what + ")", x.all(what), 0);
        }
        Due.same("no camp", x.who(0, 0), BEYOND);
        Due.same("no rapid", x.runs(0, 0, 0), BEYOND);
        Due.same("no trip", x.of(0, 0), BEYOND);
        Due.same("no applicant", x.chance(0, false), BEYOND);
        Due.same("the first camp", x.camp(9, false), 0);
        Due.same("the first rapid", x.rapid(9, 1, 2), 0);
        Due.same("the first trip", x.trip(0, 0, 1, 1, 0), 0);
        Due.same("no landing", x.hurt(0, 0), Due.NONE);
        Due.same("the first landing", x.landing(9), 1);
        Due.same("the first applicant", x.applicant(9), 0);
    }

    /** "sheets MISSING": all four. */
    private static void promise01ANewObjectsSheetsAreMissing() {
        for (int s = 0; s < 4; s++) {
            CanyonRafts x = new CanyonRafts();
            Due.same("put " + s, x.put(s, 0, 0), Due.MISSING);
            Due.same("let " + s, x.let(0, s), Due.MISSING);
            Due.same("copy " + s, x.copy(s, 0, s, 0, 0), Due.MISSING);
        }
    }

    /** A new object has no act that could be undone, and shares nothing with another one. */
    private static void promise01ANewObjectHasNoPast() {
        CanyonRafts other = new CanyonRafts();
        other.end(7);
        other.speed(9);
        other.water(0, 0, 5);
        other.camp(3, true);
        other.sheet(0, 8, 3);
        other.end(0);
        CanyonRafts x = new CanyonRafts();
        Due.same("nothing to undo", x.undo(), Due.NONE);
        Due.same("its one finding", x.all(5), 1);
        Due.same("the water", x.waterAt(0, 0, 0), 100);
        Due.same("no camp", x.all(0), 0);
        Due.same("the sheet", x.let(0, 0), Due.MISSING);
        Due.same("the end", x.end(9), 200);
        Due.same("the speed", x.speed(2), 4);
    }

    /** "BEYOND": THE END is mile 1 to 250. */
    private static void promise02TheEndIsMile1To250() {
        Edge.bounds(Desks::some, 0, 1, 250, "end", 9);
        Edge.bounds(Desks::empty, 0, 1, 250, "end", 9);
    }

    /** "THE END becomes a mile: what it was", to both sides and to where it is. */
    private static void promise02TheEndTellsWhatItWas() {
        CanyonRafts x = new CanyonRafts();
        Due.same("200 at first", x.end(250), 200);
        Due.same("250", x.end(1), 250);
        Due.same("1", x.end(1), 1);
        Due.same("a refused one", x.end(0), BEYOND);
        Due.same("a refused one", x.end(251), BEYOND);
        Due.same("1 still", x.end(9), 1);
    }

    /** "BEYOND": a CAMP is at mile 1 to 249. */
    private static void promise03ACampIsAtMile1To249() {
        Edge.bounds(Desks::some, 0, 1, 249, "camp", 9, 0);
        Edge.bounds(Desks::empty, 0, 1, 249, "camp", 9, 1);
    }

    /** "FULL: there are 14"; the 14th is allowed. */
    private static void promise03ThereAre14CampsAtMost() {
        CanyonRafts x = new CanyonRafts();
        for (int c = 0; c < 14; c++) {
            Due.same("camp " + c, x.camp(200, true), c);
        }
        Due.same("a 15th", x.camp(200, true), FULL);
        Due.same("14", x.all(0), 14);
        Due.same("one less", x.undo(), 13);
        Due.same("a 14th again", x.camp(1, false), 13);
        Due.same("full again", x.camp(1, false), FULL);
        Edge.refused(Desks::full, FULL, "camp", 1, 0);
        Edge.refused(Desks::full, FULL, "camp", 249, 1);
    }

    private static void promise03BeyondIsAskedAheadOfFull() {
        Edge.refused(Desks::full, BEYOND, "camp", 0, 0);
        Edge.refused(Desks::full, BEYOND, "camp", 250, 1);
    }

    /** "BEYOND": a RAPID is at mile 1 to 249. */
    private static void promise04ARapidIsAtMile1To249() {
        Edge.bounds(Desks::some, 0, 1, 249, "rapid", 9, 5, 6);
        Edge.bounds(Desks::empty, 0, 1, 249, "rapid", 9, 5, 6);
    }

    /** "BEYOND": LEAST and MOST are 0 to 999. */
    private static void promise04LeastAndMostAre0To999() {
        Edge.bounds(Desks::some, 1, 0, 999, "rapid", 9, 5, 999);
        Edge.bounds(Desks::some, 2, 0, 999, "rapid", 9, 0, 6);
        Edge.allowed(Desks::some, "rapid", 9, 0, 0);
        Edge.allowed(Desks::some, "rapid", 9, 999, 999);
    }

    /** "SIZE: LEAST is above MOST"; as much as MOST is allowed. */
    private static void promise04LeastIsNotAboveMost() {
        for (int most : new int[] {0, 1, 500, 998}) {
            Edge.allowed(Desks::some, "rapid", 9, most, most);
            Edge.refused(Desks::some, SIZE, "rapid", 9, most + 1, most);
        }
        Edge.refused(Desks::empty, SIZE, "rapid", 9, 999, 0);
    }

    /** "FULL: there are 10"; the 10th is allowed. */
    private static void promise04ThereAre10RapidsAtMost() {
        CanyonRafts x = new CanyonRafts();
        for (int r = 0; r < 10; r++) {
            Due.same("rapid " + r, x.rapid(9, 0, 999), r);
        }
        Due.same("an 11th", x.rapid(9, 0, 999), FULL);
        Due.same("10", x.all(1), 10);
        Due.same("one less", x.undo(), 9);
        Due.same("a 10th again", x.rapid(9, 0, 999), 9);
        Edge.refused(Desks::full, FULL, "rapid", 1, 0, 0);
        Edge.refused(Desks::full, FULL, "rapid", 249, 999, 999);
    }

    private static void promise04BeyondIsAskedAheadOfSizeAndSizeAheadOfFull() {
        Edge.refused(Desks::some, BEYOND, "rapid", 0, 6, 5);
        Edge.refused(Desks::some, BEYOND, "rapid", 250, 6, 5);
        Edge.refused(Desks::some, BEYOND, "rapid", 9, 1000, 5);
        Edge.refused(Desks::some, BEYOND, "rapid", 9, 5, -1);
        Edge.refused(Desks::full, BEYOND, "rapid", 250, 5, 6);
        Edge.refused(Desks::full, BEYOND, "rapid", 9, -1, 6);
        Edge.refused(Desks::full, BEYOND, "rapid", 9, 5, 1000);
        Edge.refused(Desks::full, SIZE, "rapid", 9, 6, 5);
    }

    /** "BEYOND": a LANDING is at mile 0 to 250. */
    private static void promise05ALandingIsAtMile0To250() {
        Edge.bounds(Desks::some, 0, 0, 250, "landing", 9);
        Edge.bounds(Desks::empty, 0, 0, 250, "landing", 9);
    }

    /** "FULL: there are 8"; the 8th is allowed. It answers how many there are. */
    private static void promise05ThereAre8LandingsAtMost() {
        CanyonRafts x = new CanyonRafts();
        for (int n = 1; n <= 8; n++) {
            Due.same("landing " + n, x.landing(9), n);
        }
        Due.same("a 9th", x.landing(9), FULL);
        Due.same("8", x.all(2), 8);
        Due.same("one less", x.undo(), 7);
        Due.same("an 8th again", x.landing(0), 8);
        Edge.refused(Desks::full, FULL, "landing", 0);
        Edge.refused(Desks::full, FULL, "landing", 250);
    }

    private static void promise05BeyondIsAskedAheadOfFull() {
        Edge.refused(Desks::full, BEYOND, "landing", -1);
        Edge.refused(Desks::full, BEYOND, "landing", 251);
    }

    /** "BEYOND": SPEED is 1 to 9 miles an hour. */
    private static void promise06SpeedIs1To9() {
        Edge.bounds(Desks::some, 0, 1, 9, "speed", 5);
        Edge.bounds(Desks::empty, 0, 1, 9, "speed", 5);
    }

    /** "SPEED becomes v: what it was", to both sides and to what it is. */
    private static void promise06SpeedTellsWhatItWas() {
        CanyonRafts x = new CanyonRafts();
        Due.same("4 at first", x.speed(9), 4);
        Due.same("9", x.speed(1), 9);
        Due.same("1", x.speed(1), 1);
        Due.same("a refused one", x.speed(0), BEYOND);
        Due.same("a refused one", x.speed(10), BEYOND);
        Due.same("1 still", x.speed(5), 1);
    }

    /** "BEYOND": DAYS are 0 to 29, quarters 0 to 3, WATER 0 to 999. */
    private static void promise07ADayAQuarterAndAWater() {
        Edge.bounds(Desks::some, 0, 0, 29, "water", 9, 1, 5);
        Edge.bounds(Desks::some, 1, 0, 3, "water", 9, 1, 5);
        Edge.bounds(Desks::some, 2, 0, 999, "water", 9, 1, 5);
    }

    /** "WATER of a DAY'S quarter becomes v: what it was"; the quarters beside it stay, at both ends of all days. */
    private static void promise07AQuarterIsItsOwn() {
        int[][] places = {{0, 0}, {0, 3}, {1, 0}, {29, 0}, {29, 3}};
        for (int[] place : places) {
            CanyonRafts x = new CanyonRafts();
            Due.same("100 at first", x.water(place[0], place[1], 999), 100);
            for (int q = 0; q < 120; q++) {
                boolean itself = q == 4 * place[0] + place[1];
                Due.same("quarter " + q, x.waterAt(0, q / 4, q % 4 * 6), itself ? 999 : 100);
            }
            Due.same("999", x.water(place[0], place[1], 0), 999);
            Due.same("a refused one", x.water(place[0], place[1], 1000), BEYOND);
            Due.same("a refused one", x.water(place[0], place[1], -1), BEYOND);
            Due.same("0", x.water(place[0], place[1], 0), 0);
            Due.same("0 again", x.water(place[0], place[1], 7), 0);
        }
    }

    /** "The water at a mile (0 to 250) in an hour (0 to 23) of a DAY. BEYOND." */
    private static void promise08AMileADayAndAnHour() {
        Edge.bounds(Desks::some, 0, 0, 250, "waterAt", 9, 1, 5);
        Edge.bounds(Desks::some, 1, 0, 29, "waterAt", 9, 1, 5);
        Edge.bounds(Desks::some, 2, 0, 23, "waterAt", 9, 1, 5);
    }

    /** The mile may be at or behind THE END: 0 to 250 is all that is asked. */
    private static void promise08TheMileMayBeBehindTheEnd() {
        CanyonRafts x = new CanyonRafts();
        x.end(1);
        x.water(0, 0, 5);
        Due.same("at the end", x.waterAt(1, 0, 0), 5);
        Due.same("the last mile", x.waterAt(250, 2, 13), 5);
        Due.same("the last mile, an hour on", x.waterAt(250, 2, 20), 100);
    }

    /** "BEYOND: no such RAPID, DAY, or kind." */
    private static void promise09ARapidADayAndAKind() {
        Edge.bounds(Desks::some, 0, 0, 1, "runs", 0, 1, 0);
        Edge.bounds(Desks::one, 0, 0, 0, "runs", 0, 1, 0);
        Edge.bounds(Desks::full, 0, 0, 9, "runs", 0, 1, 0);
        Edge.bounds(Desks::some, 1, 0, 29, "runs", 0, 1, 0);
        Edge.bounds(Desks::some, 2, 0, 3, "runs", 0, 1, 0);
    }

    /** "BEYOND: no such RAPID": there is none yet, or it is undone. */
    private static void promise09NoRapidYet() {
        Edge.refused(Desks::empty, BEYOND, "runs", 0, 0, 0);
        CanyonRafts x = new CanyonRafts();
        x.rapid(1, 100, 100);
        Due.same("there is one", x.runs(0, 0, 0), 8);
        x.undo();
        Due.same("there is none again", x.runs(0, 0, 0), BEYOND);
    }

    /** "-1 (no finding): it is not." */
    private static void promise09NotRunnableIsNoFinding() {
        Edge.asks(Desks::some, -1, "runs", 1, 5, 0);
        CanyonRafts x = new CanyonRafts();
        x.rapid(1, 101, 999);
        Due.same("too little water", x.runs(0, 29, 2), -1);
        Due.same("no finding", x.all(5), 0);
    }
}
