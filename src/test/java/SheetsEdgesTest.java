import java.util.List;

/** The edges of promises 29 to 34: sheets, undo, and the whole. */
public final class SheetsEdgesTest {
    private static final int BEYOND = Due.BEYOND;
    private static final int KIND = Due.KIND;
    private static final int MISSING = Due.MISSING;
    private static final int NONE = Due.NONE;
    private static final int SIZE = Due.SIZE;

    private SheetsEdgesTest() {
    }

    public static void main(String[] args) throws ReflectiveOperationException {
        Edge.runAll(SheetsEdgesTest.class);
    }

    /** What numbers a sheet holds, read through the water of day 0 on. */
    private static void holds(String what, CanyonRafts x, int s, int... due) {
        Due.same(what + ": how many", x.let(0, s), due.length);
        for (int i = 0; i < due.length; i++) {
            Due.same(what + ": number " + i, x.waterAt(0, i / 4, i % 4 * 6), due[i]);
        }
    }

    /** "BEYOND: no such sheet": SHEETS are 0 to 3. */
    private static void promise29ASheetIs0To3() {
        Edge.bounds(Desks::some, 0, 0, 3, "sheet", 1, 8, 5);
        Edge.bounds(Desks::empty, 0, 0, 3, "sheet", 1, 0, 0);
    }

    /** "BEYOND: no such .. bits": 8, 16 or 32, or 0; no other up to 64, nor one of these with another sign. */
    private static void promise29BitsAre0Or8Or16Or32() {
        for (int bits = -33; bits <= 65; bits++) {
            if (List.of(0, 8, 16, 32).contains(bits)) {
                Edge.allowed(Desks::some, "sheet", 1, bits, 5);
            } else {
                Edge.refused(Desks::some, BEYOND, "sheet", 1, bits, 5);
            }
        }
        Edge.refused(Desks::some, BEYOND, "sheet", 1, Edge.MIN, 5);
        Edge.refused(Desks::some, BEYOND, "sheet", 1, Edge.MAX, 5);
    }

    /** "SIZE: n is below 0. BEYOND: n is above 40."; 0 and 40 are allowed. */
    private static void promise29AsManyAs0To40() {
        for (int bits : new int[] {0, 8, 16, 32}) {
            Edge.allowed(Desks::some, "sheet", 0, bits, 0);
            Edge.allowed(Desks::some, "sheet", 0, bits, 40);
            Edge.refused(Desks::some, SIZE, "sheet", 0, bits, -1);
            Edge.refused(Desks::some, SIZE, "sheet", 0, bits, Edge.MIN);
            Edge.refused(Desks::some, BEYOND, "sheet", 0, bits, 41);
            Edge.refused(Desks::some, BEYOND, "sheet", 0, bits, Edge.MAX);
        }
        Edge.refused(Desks::empty, SIZE, "sheet", 3, 8, -1);
        Edge.refused(Desks::empty, BEYOND, "sheet", 3, 8, 41);
    }

    private static void promise29TheSheetAndItsBitsAreAskedAheadOfSize() {
        Edge.refused(Desks::some, BEYOND, "sheet", 4, 8, -1);
        Edge.refused(Desks::some, BEYOND, "sheet", -1, 8, -1);
        Edge.refused(Desks::some, BEYOND, "sheet", 0, 9, -1);
        Edge.refused(Desks::some, SIZE, "sheet", 0, 8, -1);
    }

    /** "A sheet has n numbers, all 0": none, one, 40; also where a sheet had others; "n". */
    private static void promise29AllNumbersAre0() {
        for (int bits : new int[] {8, 16, 32}) {
            for (int n : new int[] {0, 1, 40}) {
                CanyonRafts x = new CanyonRafts();
                x.sheet(0, bits, 40);
                for (int i = 0; i < 40; i++) {
                    x.put(0, i, 99);
                }
                Due.same("n", x.sheet(0, bits, n), n);
                holds("all 0", x, 0, new int[n]);
                Due.same("no number n", x.put(0, n, 1), BEYOND);
                x.sheet(0, bits, 40);
                holds("all 40 are 0", x, 0, new int[40]);
            }
        }
    }

    /** "bits 0: it is MISSING: n (0)". */
    private static void promise29Bits0IsMissing() {
        for (int n : new int[] {0, 7, 40}) {
            CanyonRafts x = new CanyonRafts();
            x.sheet(2, 8, 7);
            Due.same("0", x.sheet(2, 0, n), 0);
            Due.same("missing", x.put(2, 0, 0), MISSING);
            Due.same("missing", x.let(0, 2), MISSING);
            Due.same("missing", x.copy(2, 0, 2, 0, 0), MISSING);
            Due.same("missing already", x.sheet(2, 0, n), 0);
            Due.same("a sheet of no numbers is not missing", x.sheet(2, 8, 0), 0);
            Due.same("it is there", x.let(0, 2), 0);
        }
    }

    /** "BEYOND: no such sheet. MISSING. BEYOND: no such number." in this order. */
    private static void promise30ASheetThatIsThereAndANumber() {
        for (int s : new int[] {-1, 4, Edge.MIN, Edge.MAX}) {
            Edge.refused(Desks::some, BEYOND, "put", s, 0, 5);
            Edge.refused(Desks::empty, BEYOND, "put", s, -1, 5);
        }
        for (int i : new int[] {0, -1, 40, Edge.MIN, Edge.MAX}) {
            Edge.refused(Desks::some, MISSING, "put", 3, i, 5);
        }
        Edge.bounds(Desks::some, 1, 0, 4, "put", 0, 0, 5);
        Edge.bounds(Desks::some, 1, 0, 39, "put", 2, 0, 5);
        Edge.refused(() -> new Desk().then("sheet", 1, 8, 0), BEYOND, "put", 1, 0, 5);
    }

    /** "Number i of a sheet becomes v": the first and the last, and no other; ": 0". */
    private static void promise30OneNumberAlone() {
        for (int i : new int[] {0, 39}) {
            CanyonRafts x = new CanyonRafts();
            int[] due = new int[40];
            due[i] = 77;
            x.sheet(0, 8, 40);
            x.sheet(1, 8, 40);
            Due.same("0", x.put(0, i, 77), 0);
            holds("one", x, 0, due);
            holds("another sheet", x, 1, new int[40]);
        }
    }

    /** "(its lowest bits)": the highest number that stays, and the first that is cut; a number has a sign. */
    private static void promise30ItsLowestBits() {
        int[][] water = {{8, 127, 127}, {8, 256, 0}, {8, 383, 127}, {8, -256, 0}, {8, -129, 127}, {8, Edge.MIN, 0},
            {16, 999, 999}, {16, 256, 256}, {16, 65536, 0}, {16, 65536 + 999, 999}, {16, -65536, 0},
            {16, Edge.MIN + 999, 999}, {32, 999, 999}, {32, 0, 0}};
        for (int[] w : water) {
            CanyonRafts x = new CanyonRafts();
            x.sheet(0, w[0], 1);
            x.put(0, 0, w[1]);
            holds(w[1] + " in " + w[0] + " bits", x, 0, w[2]);
        }
        int[][] none = {{8, 128}, {8, 255}, {8, -1}, {8, -128}, {8, 384}, {8, Edge.MAX}, {16, 1000}, {16, 32767},
            {16, 32768}, {16, 65535}, {16, -1}, {16, Edge.MAX}, {32, 1000}, {32, 65536}, {32, -65536}, {32, -1},
            {32, Edge.MAX}, {32, Edge.MIN}, {32, Edge.MIN + 999}};
        for (int[] w : none) {
            CanyonRafts x = new CanyonRafts();
            x.sheet(0, w[0], 1);
            Due.same("put", x.put(0, 0, w[1]), 0);
            Due.same(w[1] + " in " + w[0] + " bits is no water", x.let(0, 0), BEYOND);
        }
    }

    /** Sheets 0 and 1 of 16 bits with 5 and 3 numbers, 2 of 8 bits, 3 missing. */
    private static Desk sheets() {
        return new Desk().then("sheet", 0, 16, 5).then("put", 0, 0, 11).then("put", 0, 1, 12).then("put", 0, 2, 13)
                .then("put", 0, 3, 14).then("put", 0, 4, 15).then("sheet", 1, 16, 3).then("put", 1, 0, 21)
                .then("put", 1, 1, 22).then("put", 1, 2, 23).then("sheet", 2, 8, 5).then("put", 2, 0, 31);
    }

    /** "BEYOND: no such sheet (either)." */
    private static void promise31TwoSheets() {
        for (int s : new int[] {-1, 4, Edge.MIN, Edge.MAX}) {
            Edge.refused(SheetsEdgesTest::sheets, BEYOND, "copy", s, 0, 0, 0, 1);
            Edge.refused(SheetsEdgesTest::sheets, BEYOND, "copy", 0, 0, s, 0, 1);
        }
        Edge.allowed(SheetsEdgesTest::sheets, "copy", 0, 0, 1, 0, 1);
        Edge.allowed(SheetsEdgesTest::sheets, "copy", 2, 0, 2, 1, 1);
    }

    /** "MISSING: one is." */
    private static void promise31Missing() {
        Edge.refused(SheetsEdgesTest::sheets, MISSING, "copy", 3, 0, 0, 0, 0);
        Edge.refused(SheetsEdgesTest::sheets, MISSING, "copy", 0, 0, 3, 0, 0);
        Edge.refused(SheetsEdgesTest::sheets, MISSING, "copy", 3, 0, 3, 0, 0);
    }

    /** "KIND: they are not of as many bits." */
    private static void promise31Kind() {
        int[] bits = {8, 16, 32};
        for (int a : bits) {
            for (int b : bits) {
                if (a == b) {
                    Edge.allowed(() -> new Desk().then("sheet", 0, a, 1).then("sheet", 3, b, 1), "copy", 0, 0, 3, 0, 1);
                } else {
                    Edge.refused(() -> new Desk().then("sheet", 0, a, 1).then("sheet", 3, b, 1), KIND,
                            "copy", 0, 0, 3, 0, 1);
                }
            }
        }
    }

    /** "BEYOND: one has not so many": as many as there are is allowed, one more is not, of either sheet. */
    private static void promise31OneHasNotSoMany() {
        int[][] fit = {{0, 0, 0, 0, 5}, {0, 0, 1, 0, 3}, {0, 2, 1, 0, 3}, {0, 4, 1, 2, 1}, {1, 0, 0, 2, 3},
            {1, 2, 0, 4, 1}, {0, 5, 1, 3, 0}, {1, 3, 0, 5, 0}, {0, 0, 1, 0, 0}};
        for (int[] a : fit) {
            Edge.allowed(SheetsEdgesTest::sheets, "copy", a);
        }
        int[][] beyond = {{0, 0, 0, 0, 6}, {0, 0, 1, 0, 4}, {0, 3, 1, 0, 3}, {0, 0, 1, 1, 3}, {0, 5, 1, 2, 1},
            {0, 4, 1, 3, 1}, {1, 0, 0, 3, 3}, {1, 1, 0, 2, 3}, {0, 6, 1, 0, 0}, {0, 0, 1, 4, 0}, {1, 3, 0, 0, 1},
            {0, 0, 0, 0, Edge.MAX}, {0, Edge.MAX, 0, 0, 1}, {0, 0, 0, Edge.MAX, 1}, {0, 1, 0, 0, Edge.MAX},
            {0, 0, 0, 1, Edge.MAX}, {0, Edge.MAX, 0, Edge.MAX, Edge.MAX}, {0, Edge.MAX, 0, 0, 0}};
        for (int[] a : beyond) {
            Edge.refused(SheetsEdgesTest::sheets, BEYOND, "copy", a);
        }
    }

    /** "or from, to or n is below 0", also where it and another one make a number that there is. */
    private static void promise31BelowZero() {
        int[][] below = {{0, -1, 1, 0, 1}, {0, 0, 1, -1, 1}, {0, 0, 1, 0, -1}, {0, -1, 1, 0, 2}, {0, 0, 1, -1, 2},
            {0, 2, 1, 2, -1}, {0, -1, 1, 0, 0}, {0, 0, 1, -1, 0}, {0, Edge.MIN, 1, 0, 1}, {0, 0, 1, Edge.MIN, 1},
            {0, 0, 1, 0, Edge.MIN}, {0, Edge.MIN, 1, Edge.MIN, Edge.MIN}, {0, 5, 0, 5, Edge.MIN}};
        for (int[] a : below) {
            Edge.refused(SheetsEdgesTest::sheets, BEYOND, "copy", a);
        }
    }

    private static void promise31TheOrderOfItsFindings() {
        Edge.refused(SheetsEdgesTest::sheets, BEYOND, "copy", 4, -1, 3, -1, -1);
        Edge.refused(SheetsEdgesTest::sheets, BEYOND, "copy", 3, -1, 4, -1, -1);
        Edge.refused(SheetsEdgesTest::sheets, MISSING, "copy", 3, -1, 2, -1, -1);
        Edge.refused(SheetsEdgesTest::sheets, MISSING, "copy", 2, 0, 3, 0, 99);
        Edge.refused(SheetsEdgesTest::sheets, KIND, "copy", 0, -1, 2, 0, 1);
        Edge.refused(SheetsEdgesTest::sheets, KIND, "copy", 2, 0, 0, 0, 6);
    }

    /** "n numbers .. come to another one: n": no number, all, and within one sheet, where they lie upon each other. */
    private static void promise31WhatComes() {
        copied(0, new int[] {0, 0, 1, 0, 0}, 1, 21, 22, 23);
        copied(3, new int[] {0, 2, 1, 0, 3}, 1, 13, 14, 15);
        copied(1, new int[] {0, 4, 1, 2, 1}, 1, 21, 22, 15);
        copied(3, new int[] {1, 0, 0, 2, 3}, 0, 11, 12, 21, 22, 23);
        copied(3, new int[] {1, 0, 0, 2, 3}, 1, 21, 22, 23);
        copied(4, new int[] {0, 0, 0, 1, 4}, 0, 11, 11, 12, 13, 14);
        copied(4, new int[] {0, 1, 0, 0, 4}, 0, 12, 13, 14, 15, 15);
        copied(5, new int[] {0, 0, 0, 0, 5}, 0, 11, 12, 13, 14, 15);
    }

    private static void copied(int due, int[] a, int s, int... numbers) {
        Desk desk = sheets();
        Due.same("n", desk.call("copy", a), due);
        Due.same("as many numbers", desk.call("let", 0, s), numbers.length);
        for (int i = 0; i < numbers.length; i++) {
            Due.same("number " + i, desk.call("waterAt", 0, i / 4, i % 4 * 6), numbers[i]);
        }
    }

    /** "BEYOND: no such DAY, or sheet." */
    private static void promise32ADayAndASheet() {
        Edge.bounds(() -> Desks.some().then("sheet", 1, 8, 4), 0, 0, 29, "let", 9, 1);
        Edge.bounds(() -> Desks.some().then("sheet", 3, 8, 4), 1, 0, 3, "let", 9, 1);
        Edge.refused(Desks::some, MISSING, "let", 9, 3);
        Edge.refused(Desks::empty, MISSING, "let", 29, 0);
    }

    /** "SIZE: they go beyond DAY 29": up to its last quarter is allowed. */
    private static void promise32NotBeyondDay29() {
        for (int day = 19; day < 30; day++) {
            int last = day;
            int most = 4 * (30 - last);
            if (most <= 40) {
                Edge.allowed(() -> new Desk().then("sheet", 0, 16, most), "let", last, 0);
            }
            if (most < 40) {
                Edge.refused(() -> new Desk().then("end", 9).then("sheet", 0, 16, most + 1), SIZE, "let", last, 0);
            }
        }
        CanyonRafts x = new CanyonRafts();
        x.sheet(0, 16, 4);
        x.put(0, 3, 7);
        Due.same("four", x.let(29, 0), 4);
        Due.same("the last quarter", x.waterAt(0, 29, 18), 7);
    }

    /** "BEYOND: one is not 0 to 999": 0 and 999 are allowed, at the first place and at the last. */
    private static void promise32EachIsWater() {
        for (int i : new int[] {0, 4}) {
            for (int v : new int[] {0, 999}) {
                Edge.allowed(() -> Desks.some().then("put", 0, i, v), "let", 9, 0);
            }
            for (int v : new int[] {-1, 1000}) {
                Edge.refused(() -> Desks.some().then("put", 0, i, v), BEYOND, "let", 9, 0);
            }
        }
        Edge.refused(() -> Desks.some().then("put", 2, 39, Edge.MIN), BEYOND, "let", 9, 2);
        Edge.refused(() -> Desks.some().then("put", 2, 39, Edge.MAX), BEYOND, "let", 9, 2);
    }

    private static void promise32TheOrderOfItsFindings() {
        Edge.refused(() -> Desks.some().then("put", 0, 0, 1000), SIZE, "let", 29, 0);
        Edge.refused(() -> Desks.some().then("put", 0, 0, 1000), BEYOND, "let", 28, 0);
        Edge.refused(Desks::some, BEYOND, "let", 30, 3);
        Edge.refused(Desks::some, BEYOND, "let", -1, 3);
        Edge.refused(Desks::some, BEYOND, "let", 30, 0);
        Edge.refused(Desks::some, MISSING, "let", 29, 3);
    }

    /** "WATER from a DAY'S first quarter on": no number, 40 numbers; the quarters ahead and behind stay. */
    private static void promise32QuarterByQuarter() {
        for (int n : new int[] {0, 1, 5, 40}) {
            CanyonRafts x = new CanyonRafts();
            x.sheet(0, 16, n);
            for (int i = 0; i < n; i++) {
                x.put(0, i, i + 1);
            }
            Due.same("how many", x.let(7, 0), n);
            for (int q = 0; q < 120; q++) {
                int i = q - 28;
                Due.same("quarter " + q, x.waterAt(0, q / 4, q % 4 * 6), i >= 0 && i < n ? i + 1 : 100);
            }
            Due.same("it is an act", x.undo(), 0);
            for (int q = 0; q < 120; q++) {
                Due.same("quarter " + q + " again", x.waterAt(0, q / 4, q % 4 * 6), 100);
            }
        }
    }

    /** "NONE": nothing yet, and nothing more. */
    private static void promise33NoneIfThereIsNothing() {
        Edge.refused(Desks::empty, NONE, "undo");
        CanyonRafts x = new CanyonRafts();
        x.end(0);
        x.sheet(0, 8, 1);
        Due.same("a finding and a sheet are no acts", x.undo(), NONE);
        x.end(9);
        Due.same("one", x.undo(), 0);
        Due.same("nothing more", x.undo(), NONE);
        Due.same("an undo is not undone", x.end(8), 200);
    }

    /** "The latest 20 are kept": of 19, 20, 21 and 45 acts. */
    private static void promise33TheLatest20AreKept() {
        for (int acts : new int[] {1, 19, 20, 21, 45}) {
            CanyonRafts x = new CanyonRafts();
            for (int i = 1; i <= acts; i++) {
                x.end(i);
            }
            int kept = Math.min(20, acts);
            for (int left = kept - 1; left >= 0; left--) {
                Due.same("how many more", x.undo(), left);
            }
            Due.same("nothing more", x.undo(), NONE);
            Due.same("the end", x.end(99), acts <= 20 ? 200 : acts - 20);
        }
    }

    /** Acts behind an undo are kept as others are, and again 20 of them. */
    private static void promise33ActsBehindAnUndo() {
        CanyonRafts x = new CanyonRafts();
        for (int i = 1; i <= 25; i++) {
            x.end(i);
        }
        for (int i = 0; i < 5; i++) {
            x.undo();
        }
        Due.same("five are undone", x.end(100), 20);
        Due.same("16 are kept", x.undo(), 15);
        for (int i = 0; i < 5; i++) {
            x.end(101 + i);
        }
        Due.same("20 are kept", x.end(106), 105);
        Due.same("20 are kept", x.undo(), 19);
        for (int left = 18; left >= 0; left--) {
            Due.same("how many more", x.undo(), left);
        }
        Due.same("nothing more", x.undo(), NONE);
        Due.same("the oldest that is kept is undone", x.end(9), 6);
    }

    /** "also such as changed nothing": each act that leaves all as it is can be undone. */
    private static void promise33AlsoSuchAsChangedNothing() {
        String[] acts = {"end 40", "speed 3", "water 0 1 160", "launch 0 0", "night 0 5 -1", "take 0", "fill 0",
            "fill 1", "weigh 0 5", "let 9 3"};
        for (String act : acts) {
            Desk desk = new Desk().then("end", 40).then("speed", 3).then("water", 0, 1, 160).then("camp", 20, 0)
                    .then("trip", 0, 0, 40, 5, 1).then("applicant", 5).then("sheet", 3, 8, 0);
            Due.yes(act + " has no finding", desk.say(act) >= -99999);
            Due.same(act + " is kept", desk.call("undo"), 6);
            Due.same("then the applicant", desk.call("undo"), 5);
            Due.same("it is gone", desk.call("all", 4), 0);
        }
    }

    /** The acts that it names, each with a finding and without one, are kept or not; all other calls are not. */
    private static void promise33WhichActsAreKept() {
        String[] acts = {"end 9", "camp 9 0", "rapid 9 1 2", "landing 9", "speed 9", "water 9 1 9", "trip 0 0 9 9 0",
            "launch 0 9", "night 0 9 0", "take 0", "fill 1", "applicant 9", "weigh 0 9", "let 9 0"};
        for (String act : acts) {
            kept(act, 9);
        }
        String[] others = {"waterAt 9 9 9", "runs 0 9 0", "as 0 0", "of 0 0", "at 0 9", "who 0 9", "plan 0",
            "planned 0 0", "calendar 1", "hurt 0 9", "chance 0 0", "drawn 9 0", "turn 9 0", "sheet 1 8 9", "put 0 0 9",
            "copy 0 0 0 1 1", "all 0", "near 0 0 9"};
        for (String other : others) {
            kept(other, 8);
        }
        String[] refused = {"end 0", "camp 0 0", "rapid 9 2 1", "landing 251", "speed 0", "water 30 1 9",
            "trip 4 0 9 9 0", "launch 0 30", "night 0 9 1", "take 1", "fill 2", "applicant 0", "weigh 0 0", "let 30 0"};
        for (String one : refused) {
            kept(one, 8);
        }
    }

    /** A desk by eight acts; behind a call so many can be undone. */
    private static void kept(String told, int due) {
        Desk desk = Desks.one();
        desk.say(told);
        Due.same(told + ": how many acts there were", desk.call("undo") + 1, due);
    }

    /** "The latest act .. is undone": each act's own change, and nothing else. */
    private static void promise33EachActIsUndone() {
        String[] acts = {"end 9", "camp 9 0", "rapid 9 1 2", "landing 9", "speed 9", "water 9 1 9", "trip 0 0 9 9 0",
            "launch 0 9", "night 0 5 2", "night 0 1 -1", "take 2", "fill 7", "fill 1", "applicant 9", "weigh 0 9",
            "let 9 0", "let 20 2", "let 0 1"};
        for (String act : acts) {
            Desk desk = Desks.some();
            Due.yes(act + " has no finding", desk.say(act) >= -99999);
            Due.same(act + ": the latest 20 are kept", desk.call("undo"), 19);
            Due.yes(act + " is undone", Telling.AT_ONCE.of(desk).equals(Telling.AT_ONCE.of(Desks.some())));
        }
    }

    /** SHEETS are not in the list of acts: what came to them stays. */
    private static void promise33SheetsStay() {
        CanyonRafts x = new CanyonRafts();
        x.end(9);
        x.sheet(0, 16, 2);
        x.put(0, 1, 5);
        x.copy(0, 1, 0, 0, 1);
        x.let(0, 0);
        Due.same("let", x.undo(), 1);
        Due.same("the end", x.undo(), 0);
        holds("the sheet", x, 0, 5, 5);
    }

    /** "BEYOND: another what": 0 to 5. */
    private static void promise34AWhat() {
        Edge.bounds(Desks::some, 0, 0, 5, "all", 1);
        Edge.bounds(Desks::empty, 0, 0, 5, "all", 1);
    }

    /** 0 to 4: nothing yet, some, full. */
    private static void promise34HowManyThereAre() {
        int[] none = {0, 0, 0, 0, 0};
        int[] one = {1, 1, 1, 1, 1};
        int[] some = {4, 2, 2, 3, 3};
        int[] full = {14, 10, 8, 10, 12};
        for (int what = 0; what < 5; what++) {
            Edge.asks(Desks::empty, none[what], "all", what);
            Edge.asks(Desks::one, one[what], "all", what);
            Edge.asks(Desks::some, some[what], "all", what);
            Edge.asks(Desks::full, full[what], "all", what);
        }
    }

    /** "how many acts answered a finding ever (this one, too, if it does)"; undo brings none back. */
    private static void promise34HowManyFindingsEver() {
        CanyonRafts x = new CanyonRafts();
        Due.same("none yet", x.all(5), 0);
        Due.same("this one does not", x.all(5), 0);
        Due.same("another what", x.all(6), BEYOND);
        Due.same("this one, too", x.all(5), 1);
        Due.same("another what", x.all(-1), BEYOND);
        Due.same("two", x.all(5), 2);
        x.end(9);
        x.undo();
        Due.same("an undo takes none back", x.all(5), 2);
        x.undo();
        Due.same("but counts itself", x.all(5), 3);
    }

    /** A finding of each call is counted, also of those that only ask. */
    private static void promise34AFindingOfEachCall() {
        String[] names = {"end", "camp", "rapid", "landing", "speed", "water", "waterAt", "runs", "trip", "as", "of",
            "launch", "night", "at", "who", "plan", "planned", "take", "calendar", "fill", "near", "hurt", "applicant",
            "weigh", "chance", "drawn", "turn", "sheet", "put", "copy", "let", "undo", "all"};
        Desk desk = new Desk();
        for (int i = 0; i < names.length; i++) {
            Due.yes(names[i], desk.call(names[i], -1, -1, -1, -1, -1) < -99999);
            Due.same(names[i] + " is counted", desk.call("all", 5), i + 1);
        }
    }
}
