/** Promises 1 to 9: a new object, and the river. */
public final class RiverTest {
    private static final int BEYOND = Due.BEYOND;
    private static final int MIN = Integer.MIN_VALUE;
    private static final int MAX = Integer.MAX_VALUE;

    private static CanyonRafts x;

    public static void main(String[] args) {
        aNewObject();
        end();
        camp();
        rapid();
        landing();
        speed();
        water();
        waterAt();
        runs();
        Due.close();
    }

    private static void aNewObject() {
        x = new CanyonRafts();
        for (int what = 0; what < 6; what++) {
            Due.same("new: all(" + what + ")", x.all(what), 0);
        }
        for (int s = 0; s < 4; s++) {
            Due.same("new: put on sheet " + s, x.put(s, 0, 0), Due.MISSING);
        }
        Due.same("new: undo", x.undo(), Due.NONE);
        for (int day = 0; day < 30; day++) {
            for (int hour = 0; hour < 24; hour++) {
                Due.same("new: water", x.waterAt(0, day, hour), 100);
            }
        }
        Due.same("new: end", x.end(1), 200);
        Due.same("new: speed", x.speed(1), 4);
        x = new CanyonRafts();
        Due.same("another object has its own end", x.end(7), 200);
    }

    private static void end() {
        x = new CanyonRafts();
        Due.same("end(1)", x.end(1), 200);
        Due.same("end(250)", x.end(250), 1);
        for (int mile : new int[] {0, -1, 251, MIN, MAX}) {
            Due.same("end(" + mile + ")", x.end(mile), BEYOND);
        }
        Due.same("end stayed", x.end(5), 250);
        Due.same("undo counts three", x.undo(), 2);
        Due.same("end is back", x.end(9), 250);
    }

    private static void camp() {
        x = new CanyonRafts();
        for (int mile : new int[] {0, 250, -1, MIN, MAX}) {
            Due.same("camp(" + mile + ")", x.camp(mile, false), BEYOND);
        }
        Due.same("no camp yet", x.all(0), 0);
        for (int c = 0; c < 14; c++) {
            Due.same("camp " + c, x.camp(c % 2 == 0 ? 1 : 249, c % 3 == 0), c);
        }
        Due.same("a 15th camp", x.camp(5, true), Due.FULL);
        Due.same("a 15th camp at no mile", x.camp(250, true), BEYOND);
        Due.same("14 camps", x.all(0), 14);
        Due.same("undo a camp", x.undo(), 13);
        Due.same("the last camp again", x.camp(5, true), 13);
    }

    private static void rapid() {
        x = new CanyonRafts();
        for (int mile : new int[] {0, 250, MIN, MAX}) {
            Due.same("rapid(" + mile + ")", x.rapid(mile, 9, 8), BEYOND);
        }
        Due.same("least -1", x.rapid(5, -1, 5), BEYOND);
        Due.same("least 1000", x.rapid(5, 1000, 5), BEYOND);
        Due.same("most -1", x.rapid(5, 5, -1), BEYOND);
        Due.same("most 1000", x.rapid(5, 5, 1000), BEYOND);
        Due.same("least above most", x.rapid(5, 6, 5), Due.SIZE);
        for (int r = 0; r < 10; r++) {
            Due.same("rapid " + r, x.rapid(r == 0 ? 1 : 249, r == 0 ? 0 : 999, 999), r);
        }
        Due.same("an 11th rapid", x.rapid(5, 5, 5), Due.FULL);
        Due.same("an 11th rapid, least above most", x.rapid(5, 6, 5), Due.SIZE);
        Due.same("an 11th rapid at no mile", x.rapid(0, 5, 5), BEYOND);
        Due.same("10 rapids", x.all(1), 10);
    }

    private static void landing() {
        x = new CanyonRafts();
        for (int mile : new int[] {-1, 251, MIN, MAX}) {
            Due.same("landing(" + mile + ")", x.landing(mile), BEYOND);
        }
        for (int l = 1; l <= 8; l++) {
            Due.same("landing " + l, x.landing(l % 2 == 0 ? 0 : 250), l);
        }
        Due.same("a 9th landing", x.landing(5), Due.FULL);
        Due.same("a 9th landing at no mile", x.landing(251), BEYOND);
        Due.same("8 landings", x.all(2), 8);
    }

    private static void speed() {
        x = new CanyonRafts();
        Due.same("speed(1)", x.speed(1), 4);
        Due.same("speed(9)", x.speed(9), 1);
        for (int v : new int[] {0, 10, -1, MIN, MAX}) {
            Due.same("speed(" + v + ")", x.speed(v), BEYOND);
        }
        Due.same("speed stayed", x.speed(4), 9);
    }

    private static void water() {
        x = new CanyonRafts();
        Due.same("water(0, 0, 0)", x.water(0, 0, 0), 100);
        Due.same("water(29, 3, 999)", x.water(29, 3, 999), 100);
        Due.same("water again", x.water(29, 3, 5), 999);
        for (int[] a : new int[][] {{-1, 0, 1}, {30, 0, 1}, {0, -1, 1}, {0, 4, 1}, {0, 0, -1}, {0, 0, 1000},
            {MIN, MIN, MIN}, {MAX, 0, 0}, {0, MAX, 0}, {0, 0, MAX}}) {
            Due.same("water out of bounds", x.water(a[0], a[1], a[2]), BEYOND);
        }
        Due.same("water stayed", x.water(0, 0, 1), 0);
        Due.same("the next quarter is its own", x.water(0, 1, 1), 100);
    }

    private static void waterAt() {
        x = new CanyonRafts();
        for (int day = 0; day < 30; day++) {
            for (int quarter = 0; quarter < 4; quarter++) {
                x.water(day, quarter, 10 * day + quarter);
            }
        }
        Due.same("hour 5", x.waterAt(0, 3, 5), 30);
        Due.same("hour 6", x.waterAt(0, 3, 6), 31);
        Due.same("hour 23", x.waterAt(0, 3, 23), 33);
        Due.same("mile 3 is not yet an hour", x.waterAt(3, 3, 0), 30);
        Due.same("mile 4 is an hour", x.waterAt(4, 3, 0), 23);
        Due.same("mile 250 is 62 hours", x.waterAt(250, 3, 14), 2 * 0 + 10 * 1 + 0);
        Due.same("62 hours, an hour less", x.waterAt(250, 3, 13), 3);
        Due.same("ahead of hour 0", x.waterAt(250, 0, 0), 0);
        Due.same("ahead of hour 0, day 2", x.waterAt(250, 2, 13), 0);
        x.speed(1);
        Due.same("speed 1: 250 hours", x.waterAt(250, 29, 23), 10 * 19 + 2);
        x.speed(9);
        Due.same("speed 9: 27 hours", x.waterAt(250, 29, 23), 10 * 28 + 3);
        for (int[] a : new int[][] {{-1, 0, 0}, {251, 0, 0}, {0, -1, 0}, {0, 30, 0}, {0, 0, -1}, {0, 0, 24},
            {MIN, 0, 0}, {MAX, MAX, MAX}}) {
            Due.same("waterAt out of bounds", x.waterAt(a[0], a[1], a[2]), BEYOND);
        }
    }

    private static void runs() {
        x = new CanyonRafts();
        Due.same("no rapid", x.runs(0, 0, 0), BEYOND);
        x.rapid(1, 150, 200);
        for (int day = 0; day < 30; day++) {
            for (int quarter = 0; quarter < 4; quarter++) {
                x.water(day, quarter, 0);
            }
        }
        Due.same("no water", x.runs(0, 1, 0), -1);
        x.water(1, 1, 150);
        Due.same("least in quarter 1", x.runs(0, 1, 0), 8);
        x.water(1, 1, 149);
        Due.same("below least", x.runs(0, 1, 0), -1);
        Due.same("below least, motor", x.runs(0, 1, 1), -1);
        Due.same("below least, large", x.runs(0, 1, 2), -1);
        Due.same("below least, guided", x.runs(0, 1, 3), 8);
        x.water(1, 1, 100);
        Due.same("50 below least, guided", x.runs(0, 1, 3), 8);
        x.water(1, 1, 99);
        Due.same("51 below least, guided", x.runs(0, 1, 3), -1);
        x.water(1, 1, 201);
        Due.same("above most", x.runs(0, 1, 0), -1);
        Due.same("above most, guided", x.runs(0, 1, 3), -1);
        x.water(1, 2, 200);
        Due.same("most in quarter 2", x.runs(0, 1, 0), 12);
        x.water(1, 2, 0);
        x.water(1, 3, 160);
        Due.same("quarter 3 is behind hour 17", x.runs(0, 1, 0), -1);
        x.rapid(100, 150, 200);
        x.water(1, 3, 0);
        x.water(1, 1, 0);
        x.water(0, 3, 170);
        Due.same("25 hours late: hours 43 to 48", x.runs(1, 1, 0), -1);
        Due.same("25 hours late: not on day 2", x.runs(1, 2, 0), -1);
        x.water(0, 2, 170);
        Due.same("hours 37 to 42", x.runs(1, 1, 0), 13);
        for (int[] a : new int[][] {{-1, 0, 0}, {2, 0, 0}, {0, -1, 0}, {0, 30, 0}, {0, 0, -1}, {0, 0, 4},
            {MAX, 0, 0}, {MIN, 0, 0}}) {
            Due.same("runs out of bounds", x.runs(a[0], a[1], a[2]), BEYOND);
        }
        x.undo();
        Due.same("water of day 0 back", x.runs(1, 1, 0), -1);
        runsAtTheLastHour();
    }

    private static void runsAtTheLastHour() {
        x = new CanyonRafts();
        x.speed(1);
        x.water(1, 2, 170);
        x.rapid(5, 150, 200);
        x.rapid(6, 150, 200);
        Due.same("hour 12 comes in hour 17", x.runs(0, 1, 0), 17);
        Due.same("hour 12 comes in hour 18", x.runs(1, 1, 0), -1);
        x.water(1, 0, 180);
        Due.same("hours 0 to 5 come in hours 5 to 10", x.runs(0, 1, 0), 8);
        x.rapid(2, 150, 200);
        Due.same("hours 0 to 5 come in hours 2 to 7", x.runs(2, 1, 0), 14);
    }
}
