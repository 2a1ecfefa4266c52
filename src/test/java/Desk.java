/** Calls the class by a call's name, as the model is called. */
final class Desk {
    private final CanyonRafts x = new CanyonRafts();

    /** A call whose answer does not matter; answers the desk itself, so that one can stand behind another. */
    Desk then(String name, int... a) {
        call(name, a);
        return this;
    }

    /** A call told in words: its name, then its arguments. */
    int say(String told) {
        String[] words = told.split(" ");
        int[] a = new int[words.length - 1];
        for (int i = 0; i < a.length; i++) {
            a[i] = Integer.parseInt(words[i + 1]);
        }
        return call(words[0], a);
    }

    int call(String name, int... a) {
        switch (name) {
            case "end": return x.end(a[0]);
            case "camp": return x.camp(a[0], a[1] != 0);
            case "rapid": return x.rapid(a[0], a[1], a[2]);
            case "landing": return x.landing(a[0]);
            case "speed": return x.speed(a[0]);
            case "water": return x.water(a[0], a[1], a[2]);
            case "waterAt": return x.waterAt(a[0], a[1], a[2]);
            case "runs": return x.runs(a[0], a[1], a[2]);
            case "trip": return x.trip(a[0], a[1], a[2], a[3], a[4]);
            case "as": return x.as(a[0], a[1]);
            case "of": return x.of(a[0], a[1]);
            case "launch": return x.launch(a[0], a[1]);
            case "night": return x.night(a[0], a[1], a[2]);
            case "at": return x.at(a[0], a[1]);
            case "who": return x.who(a[0], a[1]);
            case "plan": return x.plan(a[0]);
            case "planned": return x.planned(a[0], a[1]);
            case "take": return x.take(a[0]);
            case "calendar": return x.calendar(a[0]);
            case "fill": return x.fill(a[0]);
            case "near": return x.near(a[0], a[1], a[2]);
            case "hurt": return x.hurt(a[0], a[1]);
            case "applicant": return x.applicant(a[0]);
            case "weigh": return x.weigh(a[0], a[1]);
            case "chance": return x.chance(a[0], a[1] != 0);
            case "drawn": return x.drawn(a[0], a[1]);
            case "turn": return x.turn(a[0], a[1]);
            case "sheet": return x.sheet(a[0], a[1], a[2]);
            case "put": return x.put(a[0], a[1], a[2]);
            case "copy": return x.copy(a[0], a[1], a[2], a[3], a[4]);
            case "let": return x.let(a[0], a[1]);
            case "undo": return x.undo();
            case "all": return x.all(a[0]);
            default: throw new IllegalArgumentException(name);
        }
    }
}
