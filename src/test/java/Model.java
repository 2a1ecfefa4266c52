import java.util.ArrayDeque;
import java.util.ArrayList;
import java.util.Arrays;
import java.util.List;
import java.util.TreeMap;

/** The document told a second time, as plainly and slowly as can be: lists, whole copies, and plans by trying all. */
final class Model {
    record Camp(int mile, boolean small) {
    }

    record Rapid(int mile, int least, int most) {
    }

    record Trip(int kind, int launch, int pace, int food, int over, TreeMap<Integer, Integer> nights) {
        Trip again() {
            return new Trip(kind, launch, pace, food, over, new TreeMap<>(nights));
        }
    }

    /** All that undo brings back. */
    static final class State {
        int end = 200;
        int speed = 4;
        int[] water = new int[120];
        List<Camp> camps = new ArrayList<>();
        List<Rapid> rapids = new ArrayList<>();
        List<Integer> landings = new ArrayList<>();
        List<Trip> trips = new ArrayList<>();
        List<Integer> weights = new ArrayList<>();

        State again() {
            State s = new State();
            s.end = end;
            s.speed = speed;
            s.water = water.clone();
            s.camps.addAll(camps);
            s.rapids.addAll(rapids);
            s.landings.addAll(landings);
            for (Trip t : trips) {
                s.trips.add(t.again());
            }
            s.weights.addAll(weights);
            return s;
        }
    }

    private State now = new State();
    private final ArrayDeque<State> past = new ArrayDeque<>();
    private final int[] bits = new int[4];
    private final int[][] sheets = new int[4][];
    private int findings = 0;

    Model() {
        Arrays.fill(now.water, 100);
    }

    /** One call by its name; an answer below -99999 is counted as a finding. */
    int call(String name, int... a) {
        boolean act = ACTS.contains(name);
        State before = act ? now.again() : null;
        int answer = answer(name, a);
        if (answer < -99999) {
            findings++;
        } else if (act) {
            past.addLast(before);
            if (past.size() > 20) {
                past.removeFirst();
            }
        }
        return answer;
    }

    private static final List<String> ACTS = List.of("end", "camp", "rapid", "landing", "speed", "water", "trip",
            "launch", "night", "take", "fill", "applicant", "weigh", "let");

    private int answer(String name, int[] a) {
        switch (name) {
            case "end": return end(a[0]);
            case "camp": return camp(a[0], a[1] != 0);
            case "rapid": return rapid(a[0], a[1], a[2]);
            case "landing": return landing(a[0]);
            case "speed": return speed(a[0]);
            case "water": return water(a[0], a[1], a[2]);
            case "waterAt": return waterAt(a[0], a[1], a[2]);
            case "runs": return runs(a[0], a[1], a[2]);
            case "trip": return trip(a[0], a[1], a[2], a[3], a[4]);
            case "as": return as(a[0], a[1]);
            case "of": return of(a[0], a[1]);
            case "launch": return launch(a[0], a[1]);
            case "night": return night(a[0], a[1], a[2]);
            case "at": return at(a[0], a[1]);
            case "who": return who(a[0], a[1]);
            case "plan": return plan(a[0]);
            case "planned": return planned(a[0], a[1]);
            case "take": return take(a[0]);
            case "calendar": return calendar(a[0]);
            case "fill": return fill(a[0]);
            case "near": return near(a[0], a[1], a[2]);
            case "hurt": return hurt(a[0], a[1]);
            case "applicant": return applicant(a[0]);
            case "weigh": return weigh(a[0], a[1]);
            case "chance": return chance(a[0], a[1] != 0);
            case "drawn": return drawn(a[0], a[1]);
            case "turn": return turn(a[0], a[1]);
            case "sheet": return sheet(a[0], a[1], a[2]);
            case "put": return put(a[0], a[1], a[2]);
            case "copy": return copy(a[0], a[1], a[2], a[3], a[4]);
            case "let": return let(a[0], a[1]);
            case "undo": return undo();
            case "all": return all(a[0]);
            default: throw new IllegalArgumentException(name);
        }
    }

    private static boolean out(int v, int low, int high) {
        return v < low || v > high;
    }

    private int end(int mile) {
        if (out(mile, 1, 250)) return Due.BEYOND;
        int was = now.end;
        now.end = mile;
        return was;
    }

    private int camp(int mile, boolean small) {
        if (out(mile, 1, 249)) return Due.BEYOND;
        if (now.camps.size() == 14) return Due.FULL;
        now.camps.add(new Camp(mile, small));
        return now.camps.size() - 1;
    }

    private int rapid(int mile, int least, int most) {
        if (out(mile, 1, 249) || out(least, 0, 999) || out(most, 0, 999)) return Due.BEYOND;
        if (least > most) return Due.SIZE;
        if (now.rapids.size() == 10) return Due.FULL;
        now.rapids.add(new Rapid(mile, least, most));
        return now.rapids.size() - 1;
    }

    private int landing(int mile) {
        if (out(mile, 0, 250)) return Due.BEYOND;
        if (now.landings.size() == 8) return Due.FULL;
        now.landings.add(mile);
        return now.landings.size();
    }

    private int speed(int v) {
        if (out(v, 1, 9)) return Due.BEYOND;
        int was = now.speed;
        now.speed = v;
        return was;
    }

    private int water(int day, int quarter, int v) {
        if (out(day, 0, 29) || out(quarter, 0, 3) || out(v, 0, 999)) return Due.BEYOND;
        int was = now.water[4 * day + quarter];
        now.water[4 * day + quarter] = v;
        return was;
    }

    private int waterAt(int mile, int day, int hour) {
        if (out(mile, 0, 250) || out(day, 0, 29) || out(hour, 0, 23)) return Due.BEYOND;
        for (int late = mile / now.speed; late > 0; late--) {
            hour--;
            if (hour < 0) {
                if (day == 0) {
                    hour = 0;
                } else {
                    hour = 23;
                    day--;
                }
            }
        }
        return now.water[4 * day + hour / 6];
    }

    private int runs(int rapid, int day, int kind) {
        if (out(rapid, 0, now.rapids.size() - 1) || out(day, 0, 29) || out(kind, 0, 3)) return Due.BEYOND;
        Rapid r = now.rapids.get(rapid);
        for (int hour = 8; hour <= 17; hour++) {
            int v = waterAt(r.mile, day, hour);
            if (v <= r.most && (kind == 3 ? v >= r.least - 50 : v >= r.least)) return hour;
        }
        return -1;
    }

    private int trip(int kind, int launch, int pace, int food, int over) {
        if (out(kind, 0, 3) || out(launch, 0, 29) || out(pace, 1, 60) || out(food, 1, 15) || out(over, 0, 2)) {
            return Due.BEYOND;
        }
        if (now.trips.size() == 10) return Due.FULL;
        now.trips.add(new Trip(kind, launch, pace, food, over, new TreeMap<>()));
        return now.trips.size() - 1;
    }

    private boolean noTrip(int trip) {
        return out(trip, 0, now.trips.size() - 1);
    }

    private boolean noCamp(int camp) {
        return out(camp, 0, now.camps.size() - 1);
    }

    private int as(int trip, int kind) {
        if (noTrip(trip) || out(kind, 0, 3)) return Due.BEYOND;
        int own = now.trips.get(trip).kind;
        boolean under = own == kind || kind == 0 || kind == 1 && own == 3;
        return under ? trip : Due.KIND;
    }

    private int of(int trip, int what) {
        if (noTrip(trip) || out(what, 0, 5)) return Due.BEYOND;
        Trip t = now.trips.get(trip);
        return new int[] {t.kind, t.launch, t.pace, t.food, t.over, t.nights.size()}[what];
    }

    private int launch(int trip, int day) {
        if (noTrip(trip) || out(day, 0, 29)) return Due.BEYOND;
        Trip t = now.trips.get(trip);
        now.trips.set(trip, new Trip(t.kind, day, t.pace, t.food, t.over, new TreeMap<>()));
        return t.launch;
    }

    private int night(int trip, int day, int camp) {
        if (noTrip(trip) || out(day, 0, 29) || camp != -1 && noCamp(camp)) return Due.BEYOND;
        Trip t = now.trips.get(trip);
        int was = t.nights.getOrDefault(day, -1);
        if (camp == -1) {
            t.nights.remove(day);
            return was;
        }
        if (!free(trip, day, camp)) return Due.TAKEN;
        if (t.kind == 2 && now.camps.get(camp).small) return Due.KIND;
        t.nights.put(day, camp);
        return was;
    }

    private boolean free(int trip, int day, int camp) {
        for (int other = 0; other < now.trips.size(); other++) {
            if (other != trip && now.trips.get(other).nights.getOrDefault(day, -1) == camp) return false;
        }
        return true;
    }

    private int at(int trip, int day) {
        if (noTrip(trip) || out(day, 0, 29)) return Due.BEYOND;
        return now.trips.get(trip).nights.getOrDefault(day, Due.NONE);
    }

    private int who(int camp, int day) {
        if (noCamp(camp) || out(day, 0, 29)) return Due.BEYOND;
        for (int trip = 0; trip < now.trips.size(); trip++) {
            if (now.trips.get(trip).nights.getOrDefault(day, -1) == camp) return trip;
        }
        return Due.NONE;
    }

    /** The camps of the plan, or null: all ways of one day are tried, then all of two, and so on. */
    private List<Integer> thePlan(int trip) {
        Trip t = now.trips.get(trip);
        for (int days = 1; days <= t.food && t.launch + days - 1 <= 29; days++) {
            List<Integer> told = new ArrayList<>();
            if (tellsOn(trip, t, days, t.over, told)) return told;
        }
        return null;
    }

    private boolean tellsOn(int trip, Trip t, int days, int over, List<Integer> told) {
        int day = t.launch + told.size();
        int place = told.isEmpty() ? -1 : told.get(told.size() - 1);
        int a = place < 0 ? 0 : now.camps.get(place).mile;
        if (told.size() == days - 1) {
            return now.end <= a + t.pace && allRunnable(a, now.end - 1, day, t.kind);
        }
        for (int c = 0; c < now.camps.size(); c++) {
            Camp camp = now.camps.get(c);
            if (!free(trip, day, c) || t.kind == 2 && camp.small) continue;
            boolean stays = c == place && over > 0;
            boolean goes = camp.mile > a && camp.mile <= a + t.pace && camp.mile < now.end
                    && allRunnable(a, camp.mile, day, t.kind);
            if (!stays && !goes) continue;
            told.add(c);
            if (tellsOn(trip, t, days, stays ? over - 1 : over, told)) return true;
            told.remove(told.size() - 1);
        }
        return false;
    }

    private boolean allRunnable(int a, int b, int day, int kind) {
        for (int r = 0; r < now.rapids.size(); r++) {
            int mile = now.rapids.get(r).mile;
            if (mile > a && mile <= b && runs(r, day, kind) == -1) return false;
        }
        return true;
    }

    private int plan(int trip) {
        if (noTrip(trip)) return Due.BEYOND;
        List<Integer> told = thePlan(trip);
        return told == null ? Due.NONE : told.size() + 1;
    }

    private int planned(int trip, int i) {
        if (noTrip(trip)) return Due.BEYOND;
        List<Integer> told = thePlan(trip);
        if (told == null) return Due.NONE;
        if (out(i, 0, told.size())) return Due.BEYOND;
        return i == told.size() ? -1 : told.get(i);
    }

    private int take(int trip) {
        if (noTrip(trip)) return Due.BEYOND;
        List<Integer> told = thePlan(trip);
        if (told == null) return Due.NONE;
        Trip t = now.trips.get(trip);
        t.nights.clear();
        for (int i = 0; i < told.size(); i++) {
            t.nights.put(t.launch + i, told.get(i));
        }
        return told.size();
    }

    private int calendar(int set) {
        State before = now.again();
        int answer = fill(set);
        now = before;
        return answer;
    }

    private int fill(int set) {
        for (int bit = 0; bit < 32; bit++) {
            if ((set >> bit & 1) == 1 && noTrip(bit)) return Due.BEYOND;
        }
        for (int trip = 0; trip < now.trips.size(); trip++) {
            if ((set >> trip & 1) == 1) now.trips.get(trip).nights.clear();
        }
        int got = 0;
        for (int trip = 0; trip < now.trips.size(); trip++) {
            if ((set >> trip & 1) == 1 && take(trip) >= 0) got++;
        }
        return got;
    }

    private int near(int trip, int other, int miles) {
        if (noTrip(trip) || noTrip(other) || out(miles, 0, 250)) return Due.BEYOND;
        if (trip == other) return Due.SIZE;
        int days = 0;
        for (int day = 0; day < 30; day++) {
            Integer c = now.trips.get(trip).nights.get(day);
            Integer d = now.trips.get(other).nights.get(day);
            if (c != null && d != null && Math.abs(now.camps.get(c).mile - now.camps.get(d).mile) <= miles) days++;
        }
        return days;
    }

    private int hurt(int trip, int mile) {
        if (noTrip(trip) || out(mile, 0, 250)) return Due.BEYOND;
        int up = now.trips.get(trip).kind % 2 == 1 ? 20 : 60;
        return now.landings.stream().filter(m -> m < now.end)
                .mapToInt(m -> m >= mile ? 12 * (m - mile) : up * (mile - m)).min().orElse(Due.NONE);
    }

    private boolean noApplicant(int applicant) {
        return out(applicant, 0, now.weights.size() - 1);
    }

    private int applicant(int weight) {
        if (out(weight, 1, 99)) return Due.BEYOND;
        if (now.weights.size() == 12) return Due.FULL;
        now.weights.add(weight);
        return now.weights.size() - 1;
    }

    private int weigh(int applicant, int v) {
        if (noApplicant(applicant) || out(v, 1, 99)) return Due.BEYOND;
        return now.weights.set(applicant, v);
    }

    private int chance(int applicant, boolean below) {
        if (noApplicant(applicant)) return Due.BEYOND;
        int a = now.weights.get(applicant);
        int b = now.weights.stream().mapToInt(w -> w).sum();
        int divisor = java.math.BigInteger.valueOf(a).gcd(java.math.BigInteger.valueOf(b)).intValue();
        return (below ? b : a) / divisor;
    }

    /** A list with each applicant as often as its weight, from which the number picks. */
    private List<Integer> draw(int seed) {
        List<Integer> left = new ArrayList<>();
        for (int applicant = 0; applicant < now.weights.size(); applicant++) {
            for (int i = 0; i < now.weights.get(applicant); i++) {
                left.add(applicant);
            }
        }
        List<Integer> order = new ArrayList<>();
        long x = seed;
        while (!left.isEmpty()) {
            x = (1103515245L * x + 12345L) & 0xFFFFFFFFL;
            Integer one = left.get((int) ((x >> 16) % left.size()));
            order.add(one);
            left.removeIf(one::equals);
        }
        return order;
    }

    private int drawn(int seed, int i) {
        return noApplicant(i) ? Due.BEYOND : draw(seed).get(i);
    }

    private int turn(int seed, int applicant) {
        return noApplicant(applicant) ? Due.BEYOND : draw(seed).indexOf(applicant);
    }

    private int sheet(int s, int width, int n) {
        if (out(s, 0, 3) || !List.of(0, 8, 16, 32).contains(width)) return Due.BEYOND;
        if (n < 0) return Due.SIZE;
        if (n > 40) return Due.BEYOND;
        bits[s] = width;
        sheets[s] = width == 0 ? null : new int[n];
        return width == 0 ? 0 : n;
    }

    private int put(int s, int i, int v) {
        if (out(s, 0, 3)) return Due.BEYOND;
        if (sheets[s] == null) return Due.MISSING;
        if (out(i, 0, sheets[s].length - 1)) return Due.BEYOND;
        int high = 32 - bits[s];
        sheets[s][i] = v << high >> high;
        return 0;
    }

    private int copy(int s, int from, int t, int to, int n) {
        if (out(s, 0, 3) || out(t, 0, 3)) return Due.BEYOND;
        if (sheets[s] == null || sheets[t] == null) return Due.MISSING;
        if (bits[s] != bits[t]) return Due.KIND;
        if (from < 0 || to < 0 || n < 0) return Due.BEYOND;
        if ((long) from + n > sheets[s].length || (long) to + n > sheets[t].length) return Due.BEYOND;
        int[] carried = Arrays.copyOfRange(sheets[s], from, from + n);
        for (int i = 0; i < n; i++) {
            sheets[t][to + i] = carried[i];
        }
        return n;
    }

    private int let(int day, int s) {
        if (out(day, 0, 29) || out(s, 0, 3)) return Due.BEYOND;
        if (sheets[s] == null) return Due.MISSING;
        if (4 * day + sheets[s].length > 120) return Due.SIZE;
        for (int v : sheets[s]) {
            if (out(v, 0, 999)) return Due.BEYOND;
        }
        for (int i = 0; i < sheets[s].length; i++) {
            now.water[4 * day + i] = sheets[s][i];
        }
        return sheets[s].length;
    }

    private int undo() {
        if (past.isEmpty()) return Due.NONE;
        now = past.removeLast();
        return past.size();
    }

    private int all(int what) {
        switch (what) {
            case 0: return now.camps.size();
            case 1: return now.rapids.size();
            case 2: return now.landings.size();
            case 3: return now.trips.size();
            case 4: return now.weights.size();
            case 5: return findings;
            default: return Due.BEYOND;
        }
    }
}
