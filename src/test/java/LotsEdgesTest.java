/** The edges of promises 24 to 28: lots. How a draw goes is told by the Terms: TermsEdgesTest. */
public final class LotsEdgesTest {
    private static final int BEYOND = Due.BEYOND;
    private static final int FULL = Due.FULL;

    private LotsEdgesTest() {
    }

    public static void main(String[] args) throws ReflectiveOperationException {
        Edge.runAll(LotsEdgesTest.class);
    }

    /** "BEYOND": WEIGHT is 1 to 99. */
    private static void promise24AWeightIs1To99() {
        Edge.bounds(Desks::some, 0, 1, 99, "applicant", 5);
        Edge.bounds(Desks::empty, 0, 1, 99, "applicant", 5);
    }

    /** "FULL: there are 12"; the 12th is allowed. */
    private static void promise24ThereAre12ApplicantsAtMost() {
        CanyonRafts x = new CanyonRafts();
        for (int a = 0; a < 12; a++) {
            Due.same("applicant " + a, x.applicant(99), a);
        }
        Due.same("a 13th", x.applicant(99), FULL);
        Due.same("12", x.all(4), 12);
        Due.same("one less", x.undo(), 11);
        Due.same("a 12th again", x.applicant(1), 11);
        Edge.refused(Desks::full, FULL, "applicant", 1);
        Edge.refused(Desks::full, FULL, "applicant", 99);
    }

    private static void promise24BeyondIsAskedAheadOfFull() {
        Edge.refused(Desks::full, BEYOND, "applicant", 0);
        Edge.refused(Desks::full, BEYOND, "applicant", 100);
    }

    /** "BEYOND": no such APPLICANT, or WEIGHT. */
    private static void promise25AnApplicantAndAWeight() {
        Edge.bounds(Desks::some, 0, 0, 2, "weigh", 1, 5);
        Edge.bounds(Desks::full, 0, 0, 11, "weigh", 1, 5);
        Edge.bounds(Desks::some, 1, 1, 99, "weigh", 1, 5);
        Edge.refused(Desks::empty, BEYOND, "weigh", 0, 5);
    }

    /** "WEIGHT of an APPLICANT becomes v: what it was"; the others' stay. */
    private static void promise25TellsWhatItWas() {
        CanyonRafts x = new CanyonRafts();
        for (int a = 0; a < 12; a++) {
            x.applicant(a + 1);
        }
        for (int a : new int[] {0, 11}) {
            Due.same("at first", x.weigh(a, 99), a + 1);
            Due.same("99", x.weigh(a, 1), 99);
            Due.same("1", x.weigh(a, 1), 1);
            Due.same("a refused one", x.weigh(a, 0), BEYOND);
            Due.same("a refused one", x.weigh(a, 100), BEYOND);
            Due.same("1 still", x.weigh(a, 50), 1);
        }
        for (int a = 1; a < 11; a++) {
            Due.same("applicant " + a, x.weigh(a, 50), a + 1);
        }
    }

    /** "BEYOND": no such APPLICANT. */
    private static void promise26AnApplicant() {
        for (int below = 0; below < 2; below++) {
            Edge.bounds(Desks::some, 0, 0, 2, "chance", 0, below);
            Edge.bounds(Desks::full, 0, 0, 11, "chance", 0, below);
            Edge.refused(Desks::empty, BEYOND, "chance", 0, below);
        }
    }

    /** "in lowest terms": alone, nothing to cut, cut by the weight itself, cut by less, the most there can be. */
    private static void promise26InLowestTerms() {
        int[][] weights = {{99}, {1}, {1, 99}, {98, 99}, {50, 50}, {6, 4}, {33, 99}, {4, 10}};
        int[][] due = {{1, 1}, {1, 1}, {1, 100}, {98, 197}, {1, 2}, {3, 5}, {1, 4}, {2, 7}};
        for (int i = 0; i < weights.length; i++) {
            CanyonRafts x = new CanyonRafts();
            for (int weight : weights[i]) {
                x.applicant(weight);
            }
            Due.same("above the line " + i, x.chance(0, false), due[i][0]);
            Due.same("below the line " + i, x.chance(0, true), due[i][1]);
        }
        CanyonRafts x = new CanyonRafts();
        for (int a = 0; a < 12; a++) {
            x.applicant(99);
        }
        Due.same("99 of 1188, above", x.chance(11, false), 1);
        Due.same("99 of 1188, below", x.chance(11, true), 12);
        x.weigh(0, 98);
        Due.same("99 of 1187, above", x.chance(11, false), 99);
        Due.same("99 of 1187, below", x.chance(11, true), 1187);
    }

    /** "BEYOND: there is no such number": 0 to one less than there are APPLICANTS. */
    private static void promise27ANumber() {
        Edge.bounds(Desks::some, 1, 0, 2, "drawn", 5, 0);
        Edge.bounds(Desks::full, 1, 0, 11, "drawn", 5, 0);
        Edge.bounds(Desks::one, 1, 0, 0, "drawn", 5, 0);
        Edge.refused(Desks::empty, BEYOND, "drawn", 5, 0);
    }

    /** Each int is a seed. */
    private static void promise27EachSeed() {
        for (int seed : new int[] {Edge.MIN, -1, 0, 1, Edge.MAX}) {
            Edge.asks(Desks::one, 0, "drawn", seed, 0);
            Edge.asks(Desks::one, 0, "turn", seed, 0);
            Edge.allowed(Desks::full, "drawn", seed, 11);
        }
    }

    /** "BEYOND": no such APPLICANT. */
    private static void promise28AnApplicant() {
        Edge.bounds(Desks::some, 1, 0, 2, "turn", 5, 0);
        Edge.bounds(Desks::full, 1, 0, 11, "turn", 5, 0);
        Edge.bounds(Desks::one, 1, 0, 0, "turn", 5, 0);
        Edge.refused(Desks::empty, BEYOND, "turn", 5, 0);
    }

    /** "As which number an APPLICANT is drawn": the first is 0, the last one less than there are. */
    private static void promise28FromTheFirstToTheLast() {
        for (int seed : new int[] {Edge.MIN, -7, 0, 3, Edge.MAX}) {
            Desk desk = Desks.full();
            for (int i = 0; i < 12; i++) {
                int who = desk.call("drawn", seed, i);
                Due.same("number " + i, desk.call("turn", seed, who), i);
                Due.same("number " + i + ", nothing drawn before", Desks.full().call("turn", seed, who), i);
            }
        }
    }
}
