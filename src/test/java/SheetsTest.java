/** Promises 29 to 34: sheets, undo, and the whole. */
public final class SheetsTest {
    private static final int BEYOND = Due.BEYOND;
    private static final int MIN = Integer.MIN_VALUE;
    private static final int MAX = Integer.MAX_VALUE;

    private static CanyonRafts x;

    public static void main(String[] args) {
        sheet();
        put();
        copy();
        copyWithinOne();
        let();
        undo();
        undoEachAct();
        all();
        Due.close();
    }

    /** What numbers a sheet holds, read through the water of day 0 on. */
    private static void holds(String what, int s, int... due) {
        Due.same(what + ": how many", x.let(0, s), due.length);
        for (int i = 0; i < due.length; i++) {
            Due.same(what + ": number " + i, x.waterAt(0, i / 4, i % 4 * 6), due[i]);
        }
    }

    private static void sheet() {
        x = new CanyonRafts();
        for (int[] a : new int[][] {{-1, 8, 1}, {4, 8, 1}, {0, 1, 1}, {0, 64, 1}, {0, -8, 1}, {4, 8, -1}, {0, 7, -1},
            {0, 8, 41}, {0, 8, MAX}, {MIN, 8, 0}, {0, 0, 41}}) {
            Due.same("sheet out of bounds", x.sheet(a[0], a[1], a[2]), BEYOND);
        }
        Due.same("n below 0", x.sheet(0, 8, -1), Due.SIZE);
        Due.same("n below 0", x.sheet(0, 32, MIN), Due.SIZE);
        Due.same("n below 0, bits 0", x.sheet(0, 0, -1), Due.SIZE);
        Due.same("it is missing still", x.put(0, 0, 0), Due.MISSING);
        for (int bits : new int[] {8, 16, 32}) {
            Due.same("40 numbers", x.sheet(3, bits, 40), 40);
            Due.same("the last number", x.put(3, 39, 5), 0);
            Due.same("no number", x.sheet(3, bits, 0), 0);
            Due.same("it is there, but empty", x.put(3, 0, 0), BEYOND);
            Due.same("empty water", x.let(0, 3), 0);
        }
        x.sheet(1, 16, 3);
        x.put(1, 0, 7);
        Due.same("a refused sheet", x.sheet(1, 16, 41), BEYOND);
        holds("stays", 1, 7, 0, 0);
        x.sheet(1, 16, 2);
        holds("a new one has all 0", 1, 0, 0);
        Due.same("missing again", x.sheet(1, 0, 7), 0);
        Due.same("missing", x.let(0, 1), Due.MISSING);
    }

    private static void put() {
        x = new CanyonRafts();
        Due.same("no sheet", x.put(4, 0, 0), BEYOND);
        Due.same("no sheet", x.put(-1, 0, 0), BEYOND);
        Due.same("missing ahead of no number", x.put(0, -1, 0), Due.MISSING);
        x.sheet(0, 8, 3);
        x.sheet(1, 16, 3);
        x.sheet(2, 32, 3);
        for (int s = 0; s < 3; s++) {
            for (int i : new int[] {-1, 3, MIN, MAX}) {
                Due.same("no number", x.put(s, i, 9), BEYOND);
            }
        }
        x.put(0, 0, 127);
        x.put(0, 2, 256 + 5);
        holds("8 bits", 0, 127, 0, 5);
        x.put(0, 1, 128);
        Due.same("128 is -128 in 8 bits", x.let(0, 0), BEYOND);
        x.put(1, 0, 65536 + 900);
        x.put(1, 1, -65536);
        holds("16 bits", 1, 900, 0, 0);
        x.put(1, 1, 32768);
        Due.same("32768 is below 0 in 16 bits", x.let(0, 1), BEYOND);
        x.put(2, 0, 999);
        holds("32 bits", 2, 999, 0, 0);
        x.put(2, 1, 65536);
        Due.same("65536 is itself in 32 bits", x.let(0, 2), BEYOND);
    }

    private static void copy() {
        x = new CanyonRafts();
        x.sheet(0, 16, 4);
        x.sheet(1, 16, 3);
        x.sheet(2, 8, 3);
        for (int i = 0; i < 4; i++) {
            x.put(0, i, 10 + i);
        }
        Due.same("no sheet", x.copy(-1, 0, 3, 0, 0), BEYOND);
        Due.same("no sheet", x.copy(3, 0, 4, 0, 0), BEYOND);
        Due.same("the first is missing", x.copy(3, 0, 2, 0, -1), Due.MISSING);
        Due.same("the second is missing", x.copy(0, 0, 3, 0, -1), Due.MISSING);
        Due.same("other bits", x.copy(0, -1, 2, 0, 99), Due.KIND);
        for (int[] a : new int[][] {{-1, 0, 1}, {0, -1, 1}, {0, 0, -1}, {0, 0, 4}, {1, 0, 4}, {3, 0, 2}, {0, 1, 3},
            {0, 3, 1}, {4, 0, 1}, {5, 0, 0}, {0, 4, 0}, {MAX, 0, 1}, {0, MAX, 1}, {1, 1, MAX}, {MIN, MIN, MIN}}) {
            Due.same("copy out of bounds", x.copy(0, a[0], 1, a[1], a[2]), BEYOND);
        }
        holds("as before", 1, 0, 0, 0);
        Due.same("copy", x.copy(0, 2, 1, 1, 2), 2);
        holds("copied", 1, 0, 12, 13);
        holds("the source", 0, 10, 11, 12, 13);
        Due.same("none from the end to the end", x.copy(0, 4, 1, 3, 0), 0);
        Due.same("back", x.copy(1, 0, 0, 1, 3), 3);
        holds("copied back", 0, 10, 0, 12, 13);
    }

    private static void copyWithinOne() {
        x = new CanyonRafts();
        x.sheet(0, 16, 5);
        for (int i = 0; i < 5; i++) {
            x.put(0, i, i + 1);
        }
        Due.same("down", x.copy(0, 0, 0, 1, 4), 4);
        holds("down", 0, 1, 1, 2, 3, 4);
        Due.same("up", x.copy(0, 1, 0, 0, 4), 4);
        holds("up", 0, 1, 2, 3, 4, 4);
        Due.same("onto itself", x.copy(0, 0, 0, 0, 5), 5);
        holds("onto itself", 0, 1, 2, 3, 4, 4);
    }

    private static void let() {
        x = new CanyonRafts();
        for (int[] a : new int[][] {{-1, 0}, {30, 0}, {0, -1}, {0, 4}, {MIN, MAX}}) {
            Due.same("let out of bounds", x.let(a[0], a[1]), BEYOND);
        }
        Due.same("missing", x.let(0, 0), Due.MISSING);
        x.sheet(0, 16, 40);
        x.put(0, 0, 1000);
        Due.same("beyond day 29, ahead of the water", x.let(21, 0), Due.SIZE);
        Due.same("the water", x.let(20, 0), BEYOND);
        x.put(0, 0, 999);
        x.put(0, 39, -1);
        Due.same("the water below 0", x.let(20, 0), BEYOND);
        Due.same("nothing has changed", x.waterAt(0, 20, 0), 100);
        x.put(0, 39, 5);
        Due.same("up to day 29", x.let(20, 0), 40);
        Due.same("first", x.waterAt(0, 20, 0), 999);
        Due.same("second", x.waterAt(0, 20, 6), 0);
        Due.same("last", x.waterAt(0, 29, 18), 5);
        Due.same("ahead of it", x.waterAt(0, 19, 23), 100);
        x.sheet(1, 8, 4);
        x.put(1, 3, 77);
        Due.same("day 29", x.let(29, 1), 4);
        Due.same("its last quarter", x.waterAt(0, 29, 23), 77);
        Due.same("undo", x.undo(), 1);
        Due.same("its last quarter is back", x.waterAt(0, 29, 23), 5);
        Due.same("undo", x.undo(), 0);
        Due.same("the first is back", x.waterAt(0, 20, 0), 100);
        Due.same("the sheet is not undone", x.let(20, 0), 40);
    }

    private static void undo() {
        x = new CanyonRafts();
        Due.same("nothing to undo", x.undo(), Due.NONE);
        for (int mile = 1; mile <= 25; mile++) {
            x.end(mile);
        }
        x.end(0);
        x.sheet(0, 8, 1);
        x.put(0, 0, 1);
        x.copy(0, 0, 0, 0, 1);
        x.calendar(0);
        for (int left = 19; left >= 0; left--) {
            Due.same("20 are kept", x.undo(), left);
        }
        Due.same("not the 21st", x.undo(), Due.NONE);
        Due.same("five stay", x.end(100), 5);
        Due.same("an act that changed nothing", x.end(100), 100);
        Due.same("it is kept too", x.undo(), 1);
        Due.same("the end is 100 still", x.speed(9), 4);
        Due.same("undo the speed", x.undo(), 1);
        Due.same("undo the end", x.undo(), 0);
        Due.same("nothing more", x.undo(), Due.NONE);
        Due.same("the end", x.end(1), 5);
        Due.same("sheets are not undone", x.let(0, 0), 1);
    }

    private static void undoEachAct() {
        x = new CanyonRafts();
        x.end(20);
        x.camp(10, false);
        x.rapid(15, 0, 999);
        x.landing(9);
        x.speed(3);
        x.water(2, 2, 2);
        x.trip(0, 0, 10, 9, 0);
        x.launch(0, 4);
        x.night(0, 9, 0);
        x.take(0);
        x.fill(1);
        x.applicant(5);
        x.weigh(0, 6);
        x.sheet(0, 8, 1);
        x.let(7, 0);
        Due.same("let", x.undo(), 13);
        Due.same("let is undone", x.waterAt(0, 7, 0), 100);
        Due.same("weigh", x.undo(), 12);
        Due.same("applicant", x.undo(), 11);
        Due.same("applicant is undone", x.all(4), 0);
        Due.same("fill", x.undo(), 10);
        Due.same("taken still", x.at(0, 4), 0);
        Due.same("take", x.undo(), 9);
        Due.same("not taken", x.at(0, 4), Due.NONE);
        Due.same("its night still", x.at(0, 9), 0);
        Due.same("night", x.undo(), 8);
        Due.same("no night", x.at(0, 9), Due.NONE);
        Due.same("launch", x.undo(), 7);
        Due.same("launch is undone", x.of(0, 1), 0);
        Due.same("trip", x.undo(), 6);
        Due.same("trip is undone", x.all(3), 0);
        Due.same("water", x.undo(), 5);
        Due.same("water is undone", x.waterAt(0, 2, 12), 100);
        Due.same("speed", x.undo(), 4);
        Due.same("landing", x.undo(), 3);
        Due.same("landing is undone", x.all(2), 0);
        Due.same("rapid", x.undo(), 2);
        Due.same("rapid is undone", x.all(1), 0);
        Due.same("camp", x.undo(), 1);
        Due.same("camp is undone", x.all(0), 0);
        Due.same("end", x.undo(), 0);
        Due.same("end is undone", x.end(7), 200);
        Due.same("speed is undone", x.speed(7), 4);
    }

    private static void all() {
        x = new CanyonRafts();
        x.camp(1, false);
        x.rapid(1, 1, 1);
        x.rapid(1, 1, 1);
        for (int i = 0; i < 3; i++) {
            x.landing(1);
        }
        for (int i = 0; i < 4; i++) {
            x.trip(0, 0, 1, 1, 0);
        }
        for (int i = 0; i < 5; i++) {
            x.applicant(1);
        }
        for (int what = 0; what < 5; what++) {
            Due.same("all(" + what + ")", x.all(what), what + 1);
        }
        Due.same("no finding yet", x.all(5), 0);
        Due.same("-1 is no finding", x.night(0, 0, 0), -1);
        Due.same("-1 is no finding", x.runs(0, 0, 0), -1);
        Due.same("no finding yet", x.all(5), 0);
        for (int what : new int[] {-1, 6, MIN, MAX}) {
            Due.same("all(" + what + ")", x.all(what), BEYOND);
        }
        Due.same("four findings", x.all(5), 4);
        x.at(1, 0);
        x.plan(0);
        x.end(0);
        x.put(0, 0, 0);
        Due.same("eight findings", x.all(5), 8);
        x.undo();
        Due.same("undo takes no finding back", x.all(5), 8);
    }
}
