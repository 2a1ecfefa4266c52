import java.util.Arrays;

/** A desk for rafts down a canyon without a road; ../shared/DOC.md says what each call promises. */
public final class CanyonRafts {
    private static final int BEYOND = -100001;
    private static final int MISSING = -100002;
    private static final int SIZE = -100003;
    private static final int KIND = -100004;
    private static final int FULL = -100005;
    private static final int NONE = -100006;
    private static final int TAKEN = -100007;

    private static final int DAYS = 30;
    private static final int LAST_MILE = 250;
    private static final int MOST_WATER = 999;

    private static final int OAR = 0;
    private static final int MOTOR = 1;
    private static final int LARGE = 2;
    private static final int GUIDED = 3;
    private static final int KINDS = 4;
    /** The kind that each kind is under; -1: none. */
    private static final int[] ABOVE = {-1, OAR, OAR, MOTOR};

    private static final int SHEETS = 4;

    private final River river = new River();
    private final Trips trips = new Trips();
    private final Planner planner = new Planner();
    private final Lots lots = new Lots();
    private final Past past = new Past();
    private final Sheet[] sheets = new Sheet[SHEETS];
    private int findings = 0;

    public CanyonRafts() {
        for (int s = 0; s < SHEETS; s++) {
            sheets[s] = new Sheet();
        }
    }

    // ---- the river

    public int end(int mile) {
        if (!within(mile, 1, LAST_MILE)) {
            return finding(BEYOND);
        }
        return change(river.bounds, River.END, mile);
    }

    public int camp(int mile, boolean small) {
        if (!within(mile, 1, LAST_MILE - 1)) {
            return finding(BEYOND);
        }
        int number = river.counts[River.CAMPS];
        if (number >= River.MOST_CAMPS) {
            return finding(FULL);
        }
        river.campMile[number] = mile;
        river.campSmall[number] = small;
        return change(river.counts, River.CAMPS, number + 1);
    }

    public int rapid(int mile, int least, int most) {
        if (!within(mile, 1, LAST_MILE - 1) || !isWater(least) || !isWater(most)) {
            return finding(BEYOND);
        }
        if (least > most) {
            return finding(SIZE);
        }
        int number = river.counts[River.RAPIDS];
        if (number >= River.MOST_RAPIDS) {
            return finding(FULL);
        }
        river.rapidMile[number] = mile;
        river.rapidLeast[number] = least;
        river.rapidMost[number] = most;
        return change(river.counts, River.RAPIDS, number + 1);
    }

    public int landing(int mile) {
        if (!isMile(mile)) {
            return finding(BEYOND);
        }
        int number = river.counts[River.LANDINGS];
        if (number >= River.MOST_LANDINGS) {
            return finding(FULL);
        }
        river.landingMile[number] = mile;
        return change(river.counts, River.LANDINGS, number + 1) + 1;
    }

    public int speed(int v) {
        if (!within(v, 1, 9)) {
            return finding(BEYOND);
        }
        return change(river.bounds, River.SPEED, v);
    }

    public int water(int day, int quarter, int v) {
        if (!isDay(day) || !within(quarter, 0, River.QUARTERS - 1) || !isWater(v)) {
            return finding(BEYOND);
        }
        return change(river.released, day * River.QUARTERS + quarter, v);
    }

    public int waterAt(int mile, int day, int hour) {
        if (!isMile(mile) || !isDay(day) || !within(hour, 0, River.HOURS - 1)) {
            return finding(BEYOND);
        }
        return river.arriving(mile, day, hour);
    }

    public int runs(int rapid, int day, int kind) {
        if (!within(rapid, 0, river.counts[River.RAPIDS] - 1) || !isDay(day) || !isKind(kind)) {
            return finding(BEYOND);
        }
        return river.firstHour(rapid, day, kind);
    }

    // ---- trips

    public int trip(int kind, int launch, int pace, int food, int over) {
        if (!isKind(kind) || !isDay(launch) || !within(pace, 1, 60) || !within(food, 1, Planner.MOST_DAYS)
                || !within(over, 0, Planner.MOST_OVER)) {
            return finding(BEYOND);
        }
        int number = trips.size();
        if (number >= Trips.MOST) {
            return finding(FULL);
        }
        trips.write(number, Trips.KIND_OF, kind);
        trips.write(number, Trips.LAUNCH, launch);
        trips.write(number, Trips.PACE, pace);
        trips.write(number, Trips.FOOD, food);
        trips.write(number, Trips.OVER, over);
        trips.clearNights(number);
        return change(trips.count, 0, number + 1);
    }

    public int as(int trip, int kind) {
        if (!isTrip(trip) || !isKind(kind)) {
            return finding(BEYOND);
        }
        int above = trips.read(trip, Trips.KIND_OF);
        for (int step = 0; step < KINDS && above != kind && isKind(above); step++) {
            above = ABOVE[above];
        }
        return above == kind ? trip : finding(KIND);
    }

    public int of(int trip, int what) {
        if (!isTrip(trip) || !within(what, 0, 5)) {
            return finding(BEYOND);
        }
        return what < Trips.NIGHTS ? trips.read(trip, what) : trips.nightsOf(trip);
    }

    public int launch(int trip, int day) {
        if (!isTrip(trip) || !isDay(day)) {
            return finding(BEYOND);
        }
        keepTrips(trip, 1);
        int before = trips.read(trip, Trips.LAUNCH);
        trips.write(trip, Trips.LAUNCH, day);
        trips.clearNights(trip);
        return before;
    }

    public int night(int trip, int day, int camp) {
        if (!isTrip(trip) || !isDay(day) || !(camp == Trips.NOWHERE || isCamp(camp))) {
            return finding(BEYOND);
        }
        if (camp != Trips.NOWHERE) {
            int guest = trips.guest(camp, day);
            if (guest != Trips.NOBODY && guest != trip) {
                return finding(TAKEN);
            }
            if (river.campSmall[camp] && trips.read(trip, Trips.KIND_OF) == LARGE) {
                return finding(KIND);
            }
        }
        return change(trips.rows, trips.index(trip, Trips.NIGHTS + day), camp);
    }

    public int at(int trip, int day) {
        if (!isTrip(trip) || !isDay(day)) {
            return finding(BEYOND);
        }
        int camp = trips.read(trip, Trips.NIGHTS + day);
        return camp == Trips.NOWHERE ? finding(NONE) : camp;
    }

    public int who(int camp, int day) {
        if (!isCamp(camp) || !isDay(day)) {
            return finding(BEYOND);
        }
        int guest = trips.guest(camp, day);
        return guest == Trips.NOBODY ? finding(NONE) : guest;
    }

    public int plan(int trip) {
        if (!isTrip(trip)) {
            return finding(BEYOND);
        }
        return planner.search(river, trips, trip) ? planner.days : finding(NONE);
    }

    public int planned(int trip, int i) {
        if (!isTrip(trip)) {
            return finding(BEYOND);
        }
        if (!planner.search(river, trips, trip)) {
            return finding(NONE);
        }
        if (!within(i, 0, planner.days - 1)) {
            return finding(BEYOND);
        }
        return i == planner.days - 1 ? -1 : planner.camps[i];
    }

    public int take(int trip) {
        if (!isTrip(trip)) {
            return finding(BEYOND);
        }
        if (!planner.search(river, trips, trip)) {
            return finding(NONE);
        }
        keepTrips(trip, 1);
        planner.writeNights(trips, trip);
        return planner.days - 1;
    }

    public int calendar(int set) {
        if (!isSet(set)) {
            return finding(BEYOND);
        }
        trips.saveRows();
        int got = planner.schedule(river, trips, set);
        trips.bringRowsBack();
        return got;
    }

    public int fill(int set) {
        if (!isSet(set)) {
            return finding(BEYOND);
        }
        keepTrips(0, trips.size());
        return planner.schedule(river, trips, set);
    }

    public int near(int trip, int other, int miles) {
        if (!isTrip(trip) || !isTrip(other) || !isMile(miles)) {
            return finding(BEYOND);
        }
        if (trip == other) {
            return finding(SIZE);
        }
        int days = 0;
        for (int day = 0; day < DAYS; day++) {
            int camp = trips.read(trip, Trips.NIGHTS + day);
            int next = trips.read(other, Trips.NIGHTS + day);
            if (isCamp(camp) && isCamp(next)
                    && Math.abs(river.campMile[camp] - river.campMile[next]) <= miles) {
                days++;
            }
        }
        return days;
    }

    public int hurt(int trip, int mile) {
        if (!isTrip(trip) || !isMile(mile)) {
            return finding(BEYOND);
        }
        int kind = trips.read(trip, Trips.KIND_OF);
        int minutes = river.minutesOut(mile, kind == MOTOR || kind == GUIDED);
        return minutes == River.NO_WAY_OUT ? finding(NONE) : minutes;
    }

    // ---- lots

    public int applicant(int weight) {
        if (!within(weight, 1, 99)) {
            return finding(BEYOND);
        }
        int number = lots.size();
        if (number >= Lots.MOST) {
            return finding(FULL);
        }
        lots.weights[number] = weight;
        return change(lots.count, 0, number + 1);
    }

    public int weigh(int applicant, int v) {
        if (!isApplicant(applicant) || !within(v, 1, 99)) {
            return finding(BEYOND);
        }
        return change(lots.weights, applicant, v);
    }

    public int chance(int applicant, boolean below) {
        if (!isApplicant(applicant)) {
            return finding(BEYOND);
        }
        int weight = lots.weights[applicant];
        int together = lots.together(lots.everybody());
        int divisor = greatestDivisor(weight, together);
        return (below ? together : weight) / divisor;
    }

    public int drawn(int seed, int i) {
        if (!isApplicant(i)) {
            return finding(BEYOND);
        }
        lots.draw(seed);
        return lots.order[i];
    }

    public int turn(int seed, int applicant) {
        if (!isApplicant(applicant)) {
            return finding(BEYOND);
        }
        lots.draw(seed);
        return lots.placeOf(applicant);
    }

    // ---- sheets, the whole

    public int sheet(int s, int bits, int n) {
        if (!isSheet(s) || !(bits == 0 || bits == 8 || bits == 16 || bits == 32)) {
            return finding(BEYOND);
        }
        if (n < 0) {
            return finding(SIZE);
        }
        if (n > Sheet.MOST) {
            return finding(BEYOND);
        }
        return sheets[s].renew(bits, n);
    }

    public int put(int s, int i, int v) {
        if (!isSheet(s)) {
            return finding(BEYOND);
        }
        Sheet sheet = sheets[s];
        if (sheet.isMissing()) {
            return finding(MISSING);
        }
        if (!within(i, 0, sheet.size - 1)) {
            return finding(BEYOND);
        }
        sheet.numbers[i] = sheet.lowest(v);
        return 0;
    }

    public int copy(int s, int from, int t, int to, int n) {
        if (!isSheet(s) || !isSheet(t)) {
            return finding(BEYOND);
        }
        Sheet source = sheets[s];
        Sheet target = sheets[t];
        if (source.isMissing() || target.isMissing()) {
            return finding(MISSING);
        }
        if (source.bits != target.bits) {
            return finding(KIND);
        }
        if (!source.has(from, n) || !target.has(to, n)) {
            return finding(BEYOND);
        }
        System.arraycopy(source.numbers, from, target.numbers, to, n);
        return n;
    }

    public int let(int day, int s) {
        if (!isDay(day) || !isSheet(s)) {
            return finding(BEYOND);
        }
        Sheet sheet = sheets[s];
        if (sheet.isMissing()) {
            return finding(MISSING);
        }
        int first = day * River.QUARTERS;
        if (sheet.size > DAYS * River.QUARTERS - first) {
            return finding(SIZE);
        }
        for (int i = 0; i < sheet.size; i++) {
            if (!isWater(sheet.numbers[i])) {
                return finding(BEYOND);
            }
        }
        past.keep(river.released, first, sheet.size);
        System.arraycopy(sheet.numbers, 0, river.released, first, sheet.size);
        return sheet.size;
    }

    public int undo() {
        return past.bringBack() ? past.size : finding(NONE);
    }

    public int all(int what) {
        switch (what) {
            case 0:
                return river.counts[River.CAMPS];
            case 1:
                return river.counts[River.RAPIDS];
            case 2:
                return river.counts[River.LANDINGS];
            case 3:
                return trips.size();
            case 4:
                return lots.size();
            case 5:
                return findings;
            default:
                return finding(BEYOND);
        }
    }

    // ---- what the calls share

    private int finding(int which) {
        findings++;
        return which;
    }

    /** Sets one number of the desk so that undo can bring it back; answers what it was. */
    private int change(int[] row, int i, int v) {
        past.keep(row, i, 1);
        int before = row[i];
        row[i] = v;
        return before;
    }

    private void keepTrips(int first, int n) {
        past.keep(trips.rows, trips.index(first, 0), n * Trips.WIDTH);
    }

    private boolean isCamp(int camp) {
        return within(camp, 0, river.counts[River.CAMPS] - 1);
    }

    private boolean isTrip(int trip) {
        return within(trip, 0, trips.size() - 1);
    }

    private boolean isSet(int set) {
        return (set & -(1 << trips.size())) == 0;
    }

    private boolean isApplicant(int applicant) {
        return within(applicant, 0, lots.size() - 1);
    }

    private static boolean isSheet(int s) {
        return within(s, 0, SHEETS - 1);
    }

    private static boolean isDay(int day) {
        return within(day, 0, DAYS - 1);
    }

    private static boolean isKind(int kind) {
        return within(kind, 0, KINDS - 1);
    }

    private static boolean isMile(int mile) {
        return within(mile, 0, LAST_MILE);
    }

    private static boolean isWater(int v) {
        return within(v, 0, MOST_WATER);
    }

    private static boolean within(int v, int low, int high) {
        return low <= v && v <= high;
    }

    private static boolean holds(int set, int i) {
        return (set & 1 << i) != 0;
    }

    /** The greatest number up to a that divides both; at least 1. */
    private static int greatestDivisor(int a, int b) {
        for (int d = a; d > 1; d--) {
            if (a % d == 0 && b % d == 0) {
                return d;
            }
        }
        return 1;
    }

    /** The river's places and the dam's water. Rows that undo must bring back are int rows. */
    private static final class River {
        static final int MOST_CAMPS = 14;
        static final int MOST_RAPIDS = 10;
        static final int MOST_LANDINGS = 8;
        static final int QUARTERS = 4;
        static final int HOURS = 24;
        static final int HOURS_A_QUARTER = 6;
        static final int FIRST_HOUR = 8;
        static final int LAST_HOUR = 17;
        static final int GUIDED_LESS = 50;
        static final int MINUTES_DOWN = 12;
        static final int MINUTES_UP = 60;
        static final int MOTOR_MINUTES_UP = 20;
        /** More minutes than any way out takes. */
        static final int NO_WAY_OUT = LAST_MILE * MINUTES_UP + 1;

        // Indices into bounds, and into counts.
        static final int END = 0;
        static final int SPEED = 1;
        static final int CAMPS = 0;
        static final int RAPIDS = 1;
        static final int LANDINGS = 2;

        /** Ahead of a trip's first day it is at this place, at mile 0: no camp has this number. */
        static final int START = MOST_CAMPS;

        final int[] bounds = {200, 4};
        final int[] counts = new int[3];
        final int[] released = new int[DAYS * QUARTERS];
        final int[] campMile = new int[MOST_CAMPS];
        final boolean[] campSmall = new boolean[MOST_CAMPS];
        final int[] rapidMile = new int[MOST_RAPIDS];
        final int[] rapidLeast = new int[MOST_RAPIDS];
        final int[] rapidMost = new int[MOST_RAPIDS];
        final int[] landingMile = new int[MOST_LANDINGS];

        River() {
            Arrays.fill(released, 100);
        }

        int arriving(int mile, int day, int hour) {
            int late = mile / Math.max(1, bounds[SPEED]);
            int left = Math.max(0, day * HOURS + hour - late);
            return released[left / HOURS_A_QUARTER];
        }

        /** The first hour in which a kind can run a rapid on a day; -1: none. */
        int firstHour(int rapid, int day, int kind) {
            int least = rapidLeast[rapid] - (kind == GUIDED ? GUIDED_LESS : 0);
            for (int hour = FIRST_HOUR; hour <= LAST_HOUR; hour++) {
                if (within(arriving(rapidMile[rapid], day, hour), least, rapidMost[rapid])) {
                    return hour;
                }
            }
            return -1;
        }

        /** The set of rapids that a kind cannot run on a day. */
        int closedRapids(int day, int kind) {
            int closed = 0;
            for (int r = 0; r < counts[RAPIDS]; r++) {
                if (firstHour(r, day, kind) < 0) {
                    closed |= 1 << r;
                }
            }
            return closed;
        }

        /** The mile of the next closed rapid below a mile; beyond all miles, if there is none. */
        int nextClosed(int mile, int closed) {
            int next = LAST_MILE + 1;
            for (int r = 0; r < counts[RAPIDS]; r++) {
                if (holds(closed, r) && rapidMile[r] > mile) {
                    next = Math.min(next, rapidMile[r]);
                }
            }
            return next;
        }

        int mileOf(int place) {
            return place < counts[CAMPS] ? campMile[place] : 0;
        }

        /** The set of camps ahead of the end that a kind may use. */
        int campsFor(int kind) {
            int set = 0;
            for (int c = 0; c < counts[CAMPS]; c++) {
                if (campMile[c] < bounds[END] && !(kind == LARGE && campSmall[c])) {
                    set |= 1 << c;
                }
            }
            return set;
        }

        /** The set of camps to which a day leads from a place. */
        int campsAhead(int place, int pace, int closed) {
            int mile = mileOf(place);
            int farthest = Math.min(mile + pace, nextClosed(mile, closed) - 1);
            int set = 0;
            for (int c = 0; c < counts[CAMPS]; c++) {
                if (within(campMile[c], mile + 1, farthest)) {
                    set |= 1 << c;
                }
            }
            return set;
        }

        /** A rapid at the end itself is not run. */
        boolean leadsToEnd(int place, int pace, int closed) {
            int mile = mileOf(place);
            return bounds[END] <= mile + pace && bounds[END] <= nextClosed(mile, closed);
        }

        /** No trip comes to a landing at or behind the end, so such a one is no way out. */
        int minutesOut(int mile, boolean motor) {
            int minutesUp = motor ? MOTOR_MINUTES_UP : MINUTES_UP;
            int fewest = NO_WAY_OUT;
            for (int i = 0; i < counts[LANDINGS]; i++) {
                if (landingMile[i] < bounds[END]) {
                    int down = landingMile[i] - mile;
                    fewest = Math.min(fewest, down >= 0 ? down * MINUTES_DOWN : -down * minutesUp);
                }
            }
            return fewest;
        }
    }

    /** All trips in one row, each with its numbers and its nights, so that undo keeps a trip as one piece. */
    private static final class Trips {
        static final int MOST = 10;
        static final int NOBODY = -1;
        static final int NOWHERE = -1;

        // A trip's numbers; behind them its nights, a day each.
        static final int KIND_OF = 0;
        static final int LAUNCH = 1;
        static final int PACE = 2;
        static final int FOOD = 3;
        static final int OVER = 4;
        static final int NIGHTS = 5;
        static final int WIDTH = NIGHTS + DAYS;

        final int[] count = new int[1];
        final int[] rows = new int[MOST * WIDTH];
        private final int[] saved = new int[MOST * WIDTH];

        int size() {
            return count[0];
        }

        int index(int trip, int which) {
            return trip * WIDTH + which;
        }

        int read(int trip, int which) {
            return rows[index(trip, which)];
        }

        void write(int trip, int which, int v) {
            rows[index(trip, which)] = v;
        }

        void clearNights(int trip) {
            for (int day = 0; day < DAYS; day++) {
                write(trip, NIGHTS + day, NOWHERE);
            }
        }

        int nightsOf(int trip) {
            int nights = 0;
            for (int day = 0; day < DAYS; day++) {
                if (read(trip, NIGHTS + day) != NOWHERE) {
                    nights++;
                }
            }
            return nights;
        }

        int guest(int camp, int day) {
            for (int trip = 0; trip < size(); trip++) {
                if (read(trip, NIGHTS + day) == camp) {
                    return trip;
                }
            }
            return NOBODY;
        }

        /** The set of camps where other trips are behind a day. */
        int takenFrom(int trip, int day) {
            int set = 0;
            for (int other = 0; other < size(); other++) {
                int camp = read(other, NIGHTS + day);
                if (other != trip && camp != NOWHERE) {
                    set |= 1 << camp;
                }
            }
            return set;
        }

        void saveRows() {
            System.arraycopy(rows, 0, saved, 0, rows.length);
        }

        void bringRowsBack() {
            System.arraycopy(saved, 0, rows, 0, rows.length);
        }
    }

    /**
     * Finds the plan of a trip: forward, day by day, all places where it may be, until one leads to the end; then
     * back, dropping the places from which that end is not reached; then forward again by the lowest numbers.
     */
    private static final class Planner {
        static final int MOST_DAYS = 15;
        static final int MOST_OVER = 2;
        static final int PLACES = River.MOST_CAMPS + 1;
        static final int OVERS = MOST_OVER + 1;

        int days = 0;
        final int[] camps = new int[MOST_DAYS];
        /** By a trip's day and how often it lay over: the set of places where it may be ahead of that day. */
        private final int[] ahead = new int[(MOST_DAYS + 1) * OVERS];
        /** By a trip's day and a place: the set of camps to which that day leads from there. */
        private final int[] leads = new int[MOST_DAYS * PLACES];
        /** The places from which the last day leads to the end. */
        private int enders = 0;

        /** Whether there is a plan; then days and camps tell it. */
        boolean search(River river, Trips trips, int trip) {
            int kind = trips.read(trip, Trips.KIND_OF);
            int launch = trips.read(trip, Trips.LAUNCH);
            int pace = trips.read(trip, Trips.PACE);
            int most = Math.min(trips.read(trip, Trips.FOOD), DAYS - launch);
            int fitting = river.campsFor(kind);
            days = 0;
            startAhead();
            for (int i = 0; i < most && days == 0 && placesAhead(i) != 0; i++) {
                int closed = river.closedRapids(launch + i, kind);
                findEnders(river, i, pace, closed);
                if (enders != 0) {
                    days = i + 1;
                } else {
                    int open = fitting & ~trips.takenFrom(trip, launch + i);
                    findLeads(river, i, pace, closed, open);
                    spread(i, trips.read(trip, Trips.OVER), open);
                }
            }
            dropDeadEnds();
            chooseCamps();
            return days > 0;
        }

        /** A trip's nights become those of the plan that was found last. */
        void writeNights(Trips trips, int trip) {
            int launch = trips.read(trip, Trips.LAUNCH);
            trips.clearNights(trip);
            for (int i = 0; i < days - 1; i++) {
                trips.write(trip, Trips.NIGHTS + launch + i, camps[i]);
            }
        }

        /** Plans a set of trips one behind the other and writes their nights; answers how many got a plan. */
        int schedule(River river, Trips trips, int set) {
            for (int trip = 0; trip < trips.size(); trip++) {
                if (holds(set, trip)) {
                    trips.clearNights(trip);
                }
            }
            int got = 0;
            for (int trip = 0; trip < trips.size(); trip++) {
                if (holds(set, trip) && search(river, trips, trip)) {
                    writeNights(trips, trip);
                    got++;
                }
            }
            return got;
        }

        private void startAhead() {
            Arrays.fill(ahead, 0);
            ahead[0] = 1 << River.START;
        }

        private int placesAhead(int i) {
            int set = 0;
            for (int over = 0; over < OVERS; over++) {
                set |= ahead[i * OVERS + over];
            }
            return set;
        }

        private void findEnders(River river, int i, int pace, int closed) {
            int places = placesAhead(i);
            enders = 0;
            for (int place = 0; place < PLACES; place++) {
                if (holds(places, place) && river.leadsToEnd(place, pace, closed)) {
                    enders |= 1 << place;
                }
            }
        }

        private void findLeads(River river, int i, int pace, int closed, int open) {
            int places = placesAhead(i);
            for (int place = 0; place < PLACES; place++) {
                leads[i * PLACES + place] =
                        holds(places, place) ? river.campsAhead(place, pace, closed) & open : 0;
            }
        }

        private void spread(int i, int mostOver, int open) {
            for (int over = 0; over <= mostOver; over++) {
                int from = ahead[i * OVERS + over];
                int set = 0;
                for (int place = 0; place < PLACES; place++) {
                    if (holds(from, place)) {
                        set |= leads[i * PLACES + place];
                    }
                }
                if (over > 0) {
                    set |= ahead[i * OVERS + over - 1] & open;
                }
                ahead[(i + 1) * OVERS + over] = set;
            }
        }

        private void dropDeadEnds() {
            for (int i = days - 1; i >= 0; i--) {
                for (int over = 0; over < OVERS; over++) {
                    int set = 0;
                    for (int place = 0; place < PLACES; place++) {
                        if (i == days - 1 ? holds(enders, place) : goesOn(i, over, place)) {
                            set |= 1 << place;
                        }
                    }
                    ahead[i * OVERS + over] &= set;
                }
            }
        }

        private boolean goesOn(int i, int over, int place) {
            return goers(i, over, place) != 0 || mayStay(i, over, place);
        }

        /** The camps to which it may go on from a place and still end with the plan. */
        private int goers(int i, int over, int place) {
            return leads[i * PLACES + place] & ahead[(i + 1) * OVERS + over];
        }

        private boolean mayStay(int i, int over, int place) {
            return over < MOST_OVER && holds(ahead[(i + 1) * OVERS + over + 1], place);
        }

        private void chooseCamps() {
            int place = River.START;
            int over = 0;
            for (int i = 0; i < days - 1; i++) {
                int next = lowest(goers(i, over, place));
                if (mayStay(i, over, place) && place < next) {
                    over++;
                } else {
                    place = next;
                }
                camps[i] = place;
            }
        }

        /** The lowest number of a set of camps; above all camps, if it is empty. */
        private static int lowest(int set) {
            for (int c = 0; c < River.MOST_CAMPS; c++) {
                if (holds(set, c)) {
                    return c;
                }
            }
            return River.MOST_CAMPS;
        }
    }

    private static final class Lots {
        static final int MOST = 12;

        final int[] count = new int[1];
        final int[] weights = new int[MOST];
        /** The applicants as the last draw told them. */
        final int[] order = new int[MOST];

        int size() {
            return count[0];
        }

        int everybody() {
            return (1 << size()) - 1;
        }

        int together(int set) {
            int sum = 0;
            for (int a = 0; a < size(); a++) {
                if (holds(set, a)) {
                    sum += weights[a];
                }
            }
            return sum;
        }

        void draw(int seed) {
            int x = seed;
            int left = everybody();
            for (int i = 0; i < size(); i++) {
                x = 1103515245 * x + 12345;
                int number = (x >>> 16) % Math.max(1, together(left));
                int winner = owner(left, number);
                order[i] = winner;
                left &= ~(1 << winner);
            }
        }

        /** Whose a number is, of those that are left. */
        private int owner(int left, int number) {
            int rest = number;
            for (int a = 0; a < size(); a++) {
                if (holds(left, a)) {
                    if (rest < weights[a]) {
                        return a;
                    }
                    rest -= weights[a];
                }
            }
            return 0;
        }

        int placeOf(int applicant) {
            int place = 0;
            for (int i = 0; i < size(); i++) {
                if (order[i] == applicant) {
                    place = i;
                }
            }
            return place;
        }
    }

    private static final class Sheet {
        static final int MOST = 40;

        /** 0: it is missing. */
        int bits = 0;
        int size = 0;
        final int[] numbers = new int[MOST];

        boolean isMissing() {
            return bits == 0;
        }

        int renew(int newBits, int n) {
            bits = newBits;
            size = isMissing() ? 0 : n;
            Arrays.fill(numbers, 0);
            return size;
        }

        int lowest(int v) {
            switch (bits) {
                case 8:
                    return (byte) v;
                case 16:
                    return (short) v;
                default:
                    return v;
            }
        }

        /** Whether it has n numbers from one on; asked so that no sum can wrap. */
        boolean has(int from, int n) {
            return from >= 0 && n >= 0 && from <= size && n <= size - from;
        }
    }

    /** The latest acts, each as the piece of a row that it changed; the oldest one's room is used again. */
    private static final class Past {
        static final int MOST = 20;

        private final Piece[] pieces = new Piece[MOST];
        private int next = 0;
        int size = 0;

        Past() {
            for (int i = 0; i < MOST; i++) {
                pieces[i] = new Piece();
            }
        }

        void keep(int[] row, int from, int n) {
            pieces[next].keep(row, from, n);
            next = (next + 1) % MOST;
            size = Math.min(MOST, size + 1);
        }

        boolean bringBack() {
            if (size == 0) {
                return false;
            }
            next = (next + MOST - 1) % MOST;
            size--;
            pieces[next].bringBack();
            return true;
        }
    }

    private static final class Piece {
        private int[] row = null;
        private int from = 0;
        private int n = 0;
        private int[] before = new int[1];

        void keep(int[] newRow, int newFrom, int newN) {
            if (before.length < newN) {
                before = new int[newN <= Sheet.MOST ? Sheet.MOST : newRow.length];
            }
            row = newRow;
            from = newFrom;
            n = newN;
            System.arraycopy(row, from, before, 0, n);
        }

        void bringBack() {
            if (row != null) {
                System.arraycopy(before, 0, row, from, n);
            }
        }
    }
}
