/** Promises 24 to 28: lots. */
public final class LotsTest {
    private static final int BEYOND = Due.BEYOND;
    private static final int MIN = Integer.MIN_VALUE;
    private static final int MAX = Integer.MAX_VALUE;

    private static CanyonRafts x;

    public static void main(String[] args) {
        applicant();
        weigh();
        chance();
        drawn();
        turn();
        Due.close();
    }

    private static void applicant() {
        x = new CanyonRafts();
        for (int weight : new int[] {0, 100, -1, MIN, MAX}) {
            Due.same("applicant(" + weight + ")", x.applicant(weight), BEYOND);
        }
        Due.same("no applicant yet", x.all(4), 0);
        for (int a = 0; a < 12; a++) {
            Due.same("applicant " + a, x.applicant(a % 2 == 0 ? 1 : 99), a);
        }
        Due.same("a 13th", x.applicant(5), Due.FULL);
        Due.same("a 13th without weight", x.applicant(0), BEYOND);
        Due.same("12 applicants", x.all(4), 12);
        Due.same("undo one", x.undo(), 11);
        Due.same("11 applicants", x.all(4), 11);
        Due.same("the last is gone", x.turn(1, 11), BEYOND);
    }

    private static void weigh() {
        x = new CanyonRafts();
        Due.same("nobody", x.weigh(0, 5), BEYOND);
        x.applicant(7);
        Due.same("weigh(0, 99)", x.weigh(0, 99), 7);
        Due.same("weigh(0, 1)", x.weigh(0, 1), 99);
        for (int v : new int[] {0, 100, MIN, MAX}) {
            Due.same("weigh(0, " + v + ")", x.weigh(0, v), BEYOND);
        }
        for (int a : new int[] {-1, 1, MIN, MAX}) {
            Due.same("weigh(" + a + ", 5)", x.weigh(a, 5), BEYOND);
        }
        Due.same("undo", x.undo(), 2);
        Due.same("weight is back", x.weigh(0, 3), 99);
    }

    private static void chance() {
        x = new CanyonRafts();
        Due.same("nobody", x.chance(0, true), BEYOND);
        x.applicant(12);
        Due.same("alone, above", x.chance(0, false), 1);
        Due.same("alone, below", x.chance(0, true), 1);
        x.applicant(18);
        x.applicant(42);
        int[][] due = {{1, 6}, {1, 4}, {7, 12}};
        for (int a = 0; a < 3; a++) {
            Due.same("above " + a, x.chance(a, false), due[a][0]);
            Due.same("below " + a, x.chance(a, true), due[a][1]);
        }
        x.weigh(0, 13);
        Due.same("13 of 73, above", x.chance(0, false), 13);
        Due.same("13 of 73, below", x.chance(0, true), 73);
        for (int a : new int[] {-1, 3, MIN, MAX}) {
            Due.same("chance(" + a + ")", x.chance(a, false), BEYOND);
        }
    }

    /** With seed 1: x is 1103527590, its number 16838; then 2524885223 (38526), then 662824084 (10113). */
    private static void drawn() {
        x = new CanyonRafts();
        Due.same("nobody", x.drawn(1, 0), BEYOND);
        x.applicant(10);
        x.applicant(20);
        x.applicant(30);
        x.weigh(1, 29);
        x.weigh(2, 21);
        Due.same("16838 modulo 60 is 38, the last of applicant 1", x.drawn(1, 0), 1);
        Due.same("38526 modulo 31 is 24, of applicant 2", x.drawn(1, 1), 2);
        Due.same("the last", x.drawn(1, 2), 0);
        x.weigh(1, 28);
        x.weigh(2, 22);
        Due.same("38 is the first of applicant 2", x.drawn(1, 0), 2);
        Due.same("38526 modulo 38 is 32, of applicant 1", x.drawn(1, 1), 1);
        for (int i : new int[] {-1, 3, MIN, MAX}) {
            Due.same("drawn(1, " + i + ")", x.drawn(1, i), BEYOND);
        }
        Due.same("a draw changes nothing", x.drawn(1, 0), 2);
        Due.same("seed 0 has x 12345, 0", x.drawn(0, 0), 0);
        Due.same("seed -3 has x 984433906, 15021, modulo 60 is 21", x.drawn(-3, 0), 1);
        Due.same("without sign: seed 2 has x -2087924461, 33676, modulo 60 is 16", x.drawn(2, 0), 1);
    }

    private static void turn() {
        x = new CanyonRafts();
        Due.same("nobody", x.turn(1, 0), BEYOND);
        for (int a = 0; a < 12; a++) {
            x.applicant(1 + 8 * a);
        }
        for (int seed : new int[] {0, 1, -1, 77, MIN, MAX}) {
            int seen = 0;
            for (int i = 0; i < 12; i++) {
                int a = x.drawn(seed, i);
                x.drawn(seed + 1, 0);
                Due.same("turn of who is drawn", x.turn(seed, a), i);
                seen |= 1 << a;
            }
            Due.same("all are drawn", seen, 4095);
        }
        for (int a : new int[] {-1, 12, MIN, MAX}) {
            Due.same("turn(1, " + a + ")", x.turn(1, a), BEYOND);
        }
        x = new CanyonRafts();
        x.applicant(1);
        x.applicant(1);
        for (int seed = 0; seed < 50; seed++) {
            Due.same("of two by weight 1 both are drawn", x.drawn(seed, 0) + x.drawn(seed, 1), 1);
        }
    }
}
