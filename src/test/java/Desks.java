/** Desks that edge tests begin with. */
final class Desks {
    private Desks() {
    }

    static Desk empty() {
        return new Desk();
    }

    /** One of each thing, nothing else: eight acts that undo keeps. */
    static Desk one() {
        return new Desk().then("end", 40).then("camp", 20, 0).then("rapid", 10, 50, 150).then("landing", 5)
                .then("trip", 0, 3, 20, 5, 1).then("applicant", 7).then("sheet", 0, 16, 4).then("put", 0, 2, 300)
                .then("night", 0, 9, 0).then("water", 3, 1, 120);
    }

    /** Some of each thing, nothing full, by more acts than undo keeps; sheet 3 is missing. */
    static Desk some() {
        return new Desk().then("end", 40).then("speed", 3)
                .then("camp", 10, 0).then("camp", 20, 1).then("camp", 30, 0).then("camp", 20, 0)
                .then("rapid", 15, 50, 150).then("rapid", 25, 150, 300)
                .then("landing", 5).then("landing", 35)
                .then("water", 0, 1, 160).then("water", 29, 3, 999)
                .then("trip", 0, 0, 20, 5, 1).then("trip", 2, 1, 20, 5, 0).then("trip", 3, 0, 20, 6, 2)
                .then("night", 0, 0, 1).then("night", 0, 1, 2).then("night", 1, 1, 3)
                .then("take", 2).then("night", 2, 29, 0)
                .then("applicant", 5).then("applicant", 10).then("applicant", 15).then("weigh", 1, 20)
                .then("sheet", 0, 16, 5).then("put", 0, 0, 900).then("put", 0, 4, 7)
                .then("sheet", 1, 8, 3).then("put", 1, 1, 100)
                .then("sheet", 2, 32, 40).then("put", 2, 39, 999)
                .then("let", 20, 0);
    }

    /** As much of each thing as there may be, and sheets 0 to 2. */
    static Desk full() {
        Desk desk = new Desk().then("end", 60);
        for (int i = 0; i < 14; i++) {
            desk.then("camp", 4 * (i + 1), i % 5 == 4 ? 1 : 0);
        }
        for (int i = 0; i < 10; i++) {
            desk.then("rapid", 5 * (i + 1), 50, 150);
        }
        for (int i = 0; i < 8; i++) {
            desk.then("landing", 7 * i);
        }
        for (int i = 0; i < 10; i++) {
            desk.then("trip", i % 4, i, 20 + i, 6, i % 3);
        }
        for (int i = 0; i < 12; i++) {
            desk.then("applicant", 5 + i);
        }
        for (int s = 0; s < 3; s++) {
            desk.then("sheet", s, 8 << s, 40).then("put", s, 39, 99);
        }
        return desk.then("fill", 0x3FF).then("night", 9, 29, 13);
    }
}
