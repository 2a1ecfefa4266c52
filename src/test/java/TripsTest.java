/** Promises 10 to 16, 22 and 23: trips, their nights, who is near, the way out. */
public final class TripsTest {
    private static final int BEYOND = Due.BEYOND;
    private static final int MIN = Integer.MIN_VALUE;
    private static final int MAX = Integer.MAX_VALUE;

    private static CanyonRafts x;

    public static void main(String[] args) {
        trip();
        as();
        of();
        launch();
        night();
        at();
        who();
        near();
        hurt();
        hurtNearTheEnd();
        Due.close();
    }

    private static void trip() {
        x = new CanyonRafts();
        for (int[] a : new int[][] {{-1, 0, 1, 1, 0}, {4, 0, 1, 1, 0}, {0, -1, 1, 1, 0}, {0, 30, 1, 1, 0},
            {0, 0, 0, 1, 0}, {0, 0, 61, 1, 0}, {0, 0, 1, 0, 0}, {0, 0, 1, 16, 0}, {0, 0, 1, 1, -1}, {0, 0, 1, 1, 3},
            {MIN, MIN, MIN, MIN, MIN}, {MAX, MAX, MAX, MAX, MAX}}) {
            Due.same("trip out of bounds", x.trip(a[0], a[1], a[2], a[3], a[4]), BEYOND);
        }
        Due.same("no trip yet", x.all(3), 0);
        Due.same("the least", x.trip(0, 0, 1, 1, 0), 0);
        Due.same("the most", x.trip(3, 29, 60, 15, 2), 1);
        for (int t = 2; t < 10; t++) {
            Due.same("trip " + t, x.trip(t % 4, t, t, t, t % 3), t);
        }
        Due.same("an 11th", x.trip(0, 0, 1, 1, 0), Due.FULL);
        Due.same("an 11th of no kind", x.trip(4, 0, 1, 1, 0), BEYOND);
        Due.same("10 trips", x.all(3), 10);
        x.camp(5, false);
        x.night(9, 4, 0);
        x.undo();
        x.undo();
        x.undo();
        Due.same("the 10th is undone", x.of(9, 0), BEYOND);
        x.trip(1, 2, 3, 4, 1);
        Due.same("a new one has no nights", x.of(9, 5), 0);
        Due.same("a new one is nowhere", x.at(9, 4), Due.NONE);
    }

    private static void as() {
        x = new CanyonRafts();
        Due.same("no trip", x.as(0, 0), BEYOND);
        int[][] under = {{1, 0, 0, 0}, {1, 1, 0, 0}, {1, 0, 1, 0}, {1, 1, 0, 1}};
        for (int kind = 0; kind < 4; kind++) {
            x.trip(kind, 0, 1, 1, 0);
            for (int as = 0; as < 4; as++) {
                Due.same(kind + " as " + as, x.as(kind, as), under[kind][as] == 1 ? kind : Due.KIND);
            }
            Due.same("as kind -1", x.as(kind, -1), BEYOND);
            Due.same("as kind 4", x.as(kind, 4), BEYOND);
        }
        for (int t : new int[] {-1, 4, MIN, MAX}) {
            Due.same("no such trip", x.as(t, 0), BEYOND);
        }
    }

    private static void of() {
        x = new CanyonRafts();
        Due.same("no trip", x.of(0, 0), BEYOND);
        x.trip(2, 17, 33, 14, 1);
        int[] due = {2, 17, 33, 14, 1, 0};
        for (int what = 0; what < 6; what++) {
            Due.same("of " + what, x.of(0, what), due[what]);
        }
        x.camp(5, false);
        x.night(0, 0, 0);
        x.night(0, 29, 0);
        Due.same("two nights", x.of(0, 5), 2);
        for (int what : new int[] {-1, 6, MIN, MAX}) {
            Due.same("of what", x.of(0, what), BEYOND);
        }
        Due.same("of no trip", x.of(1, 0), BEYOND);
        Due.same("of no trip", x.of(-1, 0), BEYOND);
    }

    private static void launch() {
        x = new CanyonRafts();
        Due.same("no trip", x.launch(0, 0), BEYOND);
        x.camp(5, false);
        x.trip(0, 3, 10, 5, 0);
        x.trip(0, 4, 10, 5, 0);
        x.night(0, 2, 0);
        x.night(0, 29, 0);
        x.night(1, 5, 0);
        Due.same("launch on no day", x.launch(0, 30), BEYOND);
        Due.same("launch on no day", x.launch(0, -1), BEYOND);
        Due.same("no such trip", x.launch(2, 0), BEYOND);
        Due.same("no such trip", x.launch(-1, 0), BEYOND);
        Due.same("the nights stayed", x.of(0, 5), 2);
        Due.same("launch(0, 29)", x.launch(0, 29), 3);
        Due.same("its launch", x.of(0, 1), 29);
        Due.same("its nights went", x.of(0, 5), 0);
        Due.same("the other's stayed", x.at(1, 5), 0);
        Due.same("undo", x.undo(), 6);
        Due.same("its launch is back", x.of(0, 1), 3);
        Due.same("its nights are back", x.of(0, 5), 2);
        Due.same("a night is back", x.at(0, 29), 0);
        Due.same("launch on the same day", x.launch(0, 3), 3);
        Due.same("then too the nights go", x.of(0, 5), 0);
    }

    private static void night() {
        x = new CanyonRafts();
        x.camp(5, false);
        x.camp(6, true);
        x.camp(240, false);
        x.trip(0, 3, 10, 5, 0);
        x.trip(2, 3, 10, 5, 0);
        for (int[] a : new int[][] {{-1, 0, 0}, {2, 0, 0}, {0, -1, 0}, {0, 30, 0}, {0, 0, 3}, {0, 0, -2},
            {2, 0, -1}, {0, 30, -1}, {MIN, MIN, MIN}, {MAX, MAX, MAX}}) {
            Due.same("night out of bounds", x.night(a[0], a[1], a[2]), BEYOND);
        }
        Due.same("night(0, 0, 1)", x.night(0, 0, 1), -1);
        Due.same("taken ahead of kind", x.night(1, 0, 1), Due.TAKEN);
        Due.same("large at a small one", x.night(1, 1, 1), Due.KIND);
        Due.same("nothing came of it", x.of(1, 5), 0);
        Due.same("its own camp is not taken", x.night(0, 0, 1), 1);
        Due.same("another camp", x.night(0, 0, 0), 1);
        Due.same("taken", x.night(1, 0, 0), Due.TAKEN);
        Due.same("the same camp on another day", x.night(1, 29, 0), -1);
        Due.same("a camp behind the end", x.night(1, 0, 2), -1);
        Due.same("to none", x.night(0, 0, -1), 0);
        Due.same("to none again", x.night(0, 0, -1), -1);
        Due.same("free now", x.night(1, 0, 0), 2);
        Due.same("undo", x.undo(), 12);
        Due.same("where it was", x.at(1, 0), 2);
    }

    private static void at() {
        x = new CanyonRafts();
        Due.same("no trip", x.at(0, 0), BEYOND);
        x.camp(5, false);
        x.camp(6, false);
        x.trip(0, 3, 10, 5, 0);
        x.night(0, 29, 1);
        Due.same("at(0, 29)", x.at(0, 29), 1);
        Due.same("at(0, 28)", x.at(0, 28), Due.NONE);
        for (int[] a : new int[][] {{-1, 0}, {1, 0}, {0, -1}, {0, 30}, {MIN, 0}, {0, MAX}}) {
            Due.same("at out of bounds", x.at(a[0], a[1]), BEYOND);
        }
    }

    private static void who() {
        x = new CanyonRafts();
        Due.same("no camp", x.who(0, 0), BEYOND);
        x.camp(5, false);
        x.camp(6, false);
        Due.same("no trip", x.who(0, 0), Due.NONE);
        x.trip(0, 3, 10, 5, 0);
        x.trip(0, 3, 10, 5, 0);
        x.night(0, 0, 1);
        x.night(1, 0, 0);
        Due.same("who(0, 0)", x.who(0, 0), 1);
        Due.same("who(1, 0)", x.who(1, 0), 0);
        Due.same("who(1, 1)", x.who(1, 1), Due.NONE);
        for (int[] a : new int[][] {{-1, 0}, {2, 0}, {0, -1}, {0, 30}, {MIN, 0}, {0, MAX}}) {
            Due.same("who out of bounds", x.who(a[0], a[1]), BEYOND);
        }
    }

    private static void near() {
        x = new CanyonRafts();
        x.camp(10, false);
        x.camp(15, false);
        x.camp(15, false);
        x.trip(0, 3, 10, 5, 0);
        x.trip(0, 3, 10, 5, 0);
        x.night(0, 0, 0);
        x.night(1, 0, 1);
        x.night(0, 29, 2);
        x.night(1, 29, 1);
        x.night(0, 5, 0);
        x.night(1, 6, 0);
        Due.same("0 miles", x.near(0, 1, 0), 1);
        Due.same("4 miles", x.near(0, 1, 4), 1);
        Due.same("5 miles", x.near(0, 1, 5), 2);
        Due.same("the other way round", x.near(1, 0, 5), 2);
        Due.same("250 miles", x.near(1, 0, 250), 2);
        for (int[] a : new int[][] {{-1, 0, 5}, {0, -1, 5}, {2, 0, 5}, {0, 2, 5}, {0, 1, -1}, {0, 1, 251}, {0, 0, 251},
            {2, 2, 0}, {MIN, MAX, 0}}) {
            Due.same("near out of bounds", x.near(a[0], a[1], a[2]), BEYOND);
        }
        Due.same("they are one", x.near(1, 1, 5), Due.SIZE);
    }

    private static void hurt() {
        x = new CanyonRafts();
        Due.same("no trip", x.hurt(0, 0), BEYOND);
        for (int kind = 0; kind < 4; kind++) {
            x.trip(kind, 0, 1, 1, 0);
        }
        Due.same("no landing", x.hurt(0, 0), Due.NONE);
        Due.same("no landing and no mile", x.hurt(0, 251), BEYOND);
        x.landing(100);
        int[] up = {60, 20, 60, 20};
        for (int kind = 0; kind < 4; kind++) {
            Due.same("at the landing", x.hurt(kind, 100), 0);
            Due.same("downstream", x.hurt(kind, 0), 1200);
            Due.same("upstream", x.hurt(kind, 250), 150 * up[kind]);
        }
        Due.same("a mile downstream", x.hurt(0, 99), 12);
        Due.same("a mile upstream", x.hurt(0, 101), 60);
        Due.same("a mile upstream by motor", x.hurt(1, 101), 20);
        x.landing(124);
        Due.same("4 up or 20 down, both 240", x.hurt(0, 104), 240);
        Due.same("5 up or 19 down", x.hurt(0, 105), 228);
        Due.same("5 up by motor", x.hurt(1, 105), 100);
        for (int[] a : new int[][] {{-1, 0}, {4, 0}, {0, -1}, {0, 251}, {MIN, 0}, {0, MAX}}) {
            Due.same("hurt out of bounds", x.hurt(a[0], a[1]), BEYOND);
        }
        x.undo();
        Due.same("one landing again", x.hurt(0, 105), 300);
    }

    /** No trip comes to a landing at or behind the end, so hurt counts only those ahead of it. */
    private static void hurtNearTheEnd() {
        x = new CanyonRafts();
        x.trip(0, 0, 1, 1, 0);
        x.landing(200);
        x.landing(250);
        Due.same("landings at and behind the first end", x.hurt(0, 199), Due.NONE);
        Due.same("no mile goes first", x.hurt(0, 251), BEYOND);
        Due.same("hurt at such a landing itself", x.hurt(0, 250), Due.NONE);
        Due.same("the landings are there", x.all(2), 2);
        Due.same("a finding each", x.all(5), 3);
        x.end(201);
        Due.same("the end a mile behind a landing", x.hurt(0, 199), 12);
        Due.same("the other one is still behind the end", x.hurt(0, 250), 3000);
        x.end(250);
        Due.same("a landing at the last mile is never ahead of the end", x.hurt(0, 249), 49 * 60);
        x.landing(0);
        x.end(1);
        Due.same("a landing where the river begins", x.hurt(0, 200), 200 * 60);
        x.undo();
        Due.same("the end is undone", x.hurt(0, 200), 0);
        x.undo();
        x.undo();
        x.undo();
        Due.same("all ends are undone", x.hurt(0, 199), Due.NONE);
    }
}
