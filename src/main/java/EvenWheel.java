import java.util.Arrays;

/** Cabins on a wheel that must stay even while it fills. ../shared/DOC.md tells what each call does. */
public final class EvenWheel {
    public static final int NONE = -1, UNKNOWN = -101, OUTSIDE = -102, STATE = -103, FULL = -104;

    private static final int NO_ARM = -1000;
    private static final int NO_LEAN = -1000000001;
    private static final int CABINS_AT_FIRST = 6;
    private static final int MOST_CABINS = 30;
    private static final int CABIN_HOLDS = 6;
    private static final int MOST_PARTIES = 200;
    private static final int MOST_STEPS_OF_A_STOP = 60;

    private final Rules rules;
    private final Wheel wheel;
    private final Ride ride;
    private final Riders riders;
    private final Emptying emptying;
    private final Rolling rolling;
    private final Notes notes;
    private final Readings readings;

    public EvenWheel() {
        rules = new Rules();
        wheel = new Wheel();
        ride = new Ride(wheel, rules);
        riders = new Riders(wheel, rules);
        emptying = new Emptying(wheel);
        rolling = new Rolling(wheel, riders);
        notes = new Notes(wheel);
        readings = new Readings(wheel);
    }

    // ---- the wheel

    public int build(int n) {
        if (Wheel.sixtiethsApart(n) == 0) {
            return OUTSIDE;
        }
        wheel.lay(n);
        ride.startAnew();
        riders.startAnew();
        notes.startAnew();
        readings.startAnew();
        return n;
    }

    public int arm(int p) {
        return wheel.has(p) ? wheel.armOf(p, 0) : NO_ARM;
    }

    public int told(int what) {
        switch (what) {
            case 0: return wheel.turnNow();
            case 1: return ride.warmthNow();
            case 2: return wheel.atDoor();
            case 3: return wheel.atTop();
            case 4: return riders.personsUp();
            case 5: return riders.personsWaiting();
            case 6: return ride.stepsDone();
            case 7: return riders.partiesCome();
            case 8: return ride.isDriven() ? 1 : 0;
            default: return OUTSIDE;
        }
    }

    public int rule(int which, int v) {
        if (!Rules.names(which)) {
            return UNKNOWN;
        }
        if (!Rules.allows(which, v)) {
            return OUTSIDE;
        }
        return rules.change(which, v);
    }

    public int drive(boolean is) {
        return ride.setDriven(is) ? 1 : 0;
    }

    public int lean(int r) {
        return wheel.has(r) ? wheel.leanAt(r) : NO_LEAN;
    }

    public int greatest() {
        return wheel.greatestLean();
    }

    public int worst() {
        return wheel.worstTurn();
    }

    public int load(int c) {
        return wheel.has(c) ? wheel.loadOf(c) : UNKNOWN;
    }

    public int cabin(int c, int what) {
        if (!wheel.has(c)) {
            return UNKNOWN;
        }
        switch (what) {
            case 0: return riders.personsIn(c);
            case 1: return riders.partiesIn(c);
            case 2: return riders.isAlone(c) ? 1 : 0;
            case 3: return wheel.placeOf(c);
            default: return OUTSIDE;
        }
    }

    public int inside(int c, int i) {
        return wheel.has(c) ? riders.partyIn(c, i) : UNKNOWN;
    }

    public int step() {
        return ride.goOn() ? wheel.turnNow() : STATE;
    }

    public int why() {
        return ride.whyNot();
    }

    public int stop(int m) {
        if (m < 0 || m > MOST_STEPS_OF_A_STOP) {
            return OUTSIDE;
        }
        int done = 0;
        while (done < m && ride.goOn()) {
            done++;
        }
        riders.showTop();
        return done;
    }

    // ---- the line

    public int come(int m, int a, int b, int c, int wishes) {
        if (!Parties.allows(m, a, b, c, wishes)) {
            return OUTSIDE;
        }
        return riders.takesMore() ? riders.queueUp(m, Parties.together(m, a, b, c), wishes) : FULL;
    }

    public int waits(int k) {
        return riders.waiting(k);
    }

    public int may(int k) {
        int p = riders.waiting(k);
        if (p == NONE) {
            return UNKNOWN;
        }
        return riders.mayBoard(p) ? 1 : 0;
    }

    public int next() {
        return riders.boardNext();
    }

    public int fill() {
        int boarded = 0;
        while (boarded < MOST_PARTIES && riders.boardNext() != NONE) {
            boarded++;
        }
        return boarded;
    }

    public int tire(int k) {
        return riders.waiting(k) == NONE ? UNKNOWN : riders.sendAway(k);
    }

    public int leave(int p) {
        if (!riders.isAtDoor(p)) {
            return UNKNOWN;
        }
        return riders.mayLeave(p) ? riders.getOff(p) : STATE;
    }

    public int party(int p, int what) {
        return riders.tellParty(p, what);
    }

    // ---- emptying

    public int order(int what) {
        if (what < 0 || what > 1) {
            return OUTSIDE;
        }
        if (!emptying.findBest()) {
            return STATE;
        }
        if (emptying.cabinsOfBest() == 0) {
            return NONE;
        }
        return what == 0 ? emptying.costOfBest() : emptying.stepsOfBest();
    }

    public int ordered(int i) {
        return emptying.findBest() ? emptying.cabinOfBest(i) : STATE;
    }

    public int cost(int order) {
        if (!emptying.gather()) {
            return STATE;
        }
        return emptying.takeFigures(order) ? emptying.costAsItStands() : OUTSIDE;
    }

    public int roll() {
        return rolling.rollNow();
    }

    public int letOut() {
        return rolling.letAllOut();
    }

    public int stranded() {
        return rolling.wouldStrand();
    }

    // ---- notes

    public int note(int sort, int k) {
        return Notes.allows(sort, k) ? notes.write(sort, k) : OUTSIDE;
    }

    public int up(int begin, int side) {
        if (!notes.mayBeUp(begin) || side < 0 || side > 1) {
            return OUTSIDE;
        }
        if (!notes.follow(begin)) {
            return NONE;
        }
        return side == 0 ? notes.leastUp() : notes.mostUp();
    }

    public int begins() {
        return notes.countBegins();
    }

    public int tear() {
        return notes.startAnew();
    }

    // ---- guesses

    public int guess(int c, int low, int high) {
        if (!wheel.has(c)) {
            return UNKNOWN;
        }
        return readings.suppose(c, low, high) ? 1 : OUTSIDE;
    }

    public int read(int r, int v, int miss) {
        if (!wheel.has(r)) {
            return UNKNOWN;
        }
        return Readings.allows(v, miss) ? readings.write(r, v, miss) : OUTSIDE;
    }

    public int forget() {
        return readings.dropAll();
    }

    public int fit(int c, int side) {
        if (!wheel.has(c)) {
            return UNKNOWN;
        }
        if (side < 0 || side > 1) {
            return OUTSIDE;
        }
        if (readings.narrow() != NONE) {
            return NONE;
        }
        return side == 0 ? readings.lowOf(c) : readings.highOf(c);
    }

    public int breaks() {
        return readings.narrow();
    }

    public int agree() {
        return readings.narrow() == NONE ? readings.countAgreeing() : NONE;
    }

    // ---- what is told

    public long digest() {
        long h = mix(211, wheel.count());
        h = mix(h, told(0));
        h = mix(h, told(1));
        h = mix(h, told(6));
        h = mix(h, told(7));
        h = mix(h, told(8));
        h = rules.mixInto(h);
        h = riders.mixInto(h);
        h = notes.mixInto(h);
        return readings.mixInto(h);
    }

    private static long mix(long h, long number) {
        return 31 * h + number;
    }

    /** Numbers in order, never more than it was made for. */
    private static final class Row {
        private final int[] items;
        private int size;

        Row(int most) {
            items = new int[Math.max(0, most)];
        }

        int count() {
            return size;
        }

        boolean hasRoom() {
            return size < items.length;
        }

        int at(int i) {
            return i >= 0 && i < size ? items[i] : NONE;
        }

        int placeOf(int item) {
            for (int i = 0; i < size; i++) {
                if (items[i] == item) {
                    return i;
                }
            }
            return NONE;
        }

        void append(int item) {
            if (hasRoom()) {
                items[size] = item;
                size++;
            }
        }

        void set(int i, int item) {
            if (i >= 0 && i < size) {
                items[i] = item;
            }
        }

        void swap(int i, int j) {
            int item = at(i);
            set(i, at(j));
            set(j, item);
        }

        void cut(int i) {
            if (i < 0 || i >= size) {
                return;
            }
            for (int j = i + 1; j < size; j++) {
                items[j - 1] = items[j];
            }
            size--;
        }

        void clear() {
            size = 0;
        }

        void copyFrom(Row other) {
            clear();
            for (int i = 0; i < other.count(); i++) {
                append(other.at(i));
            }
        }

        long mixInto(long h) {
            for (int i = 0; i < size; i++) {
                h = mix(h, items[i]);
            }
            return h;
        }
    }

    /** BOUND, HOT, COOLING and PATIENCE, by the numbers that rule() has for them. */
    private static final class Rules {
        static final int BOUND = 0, HOT = 1, COOLING = 2, PATIENCE = 3;
        private static final int[] LEAST = {0, 100, 0, 1};
        private static final int[] MOST = {1000000, 10000, 500, 20};

        private final int[] values;

        Rules() {
            values = new int[] {60000, 3000, 20, 5};
        }

        static boolean names(int which) {
            return which >= BOUND && which <= PATIENCE;
        }

        static boolean allows(int which, int v) {
            return names(which) && v >= LEAST[which] && v <= MOST[which];
        }

        int valueOf(int which) {
            return names(which) ? values[which] : 0;
        }

        int change(int which, int v) {
            int before = valueOf(which);
            if (names(which)) {
                values[which] = v;
            }
            return before;
        }

        long mixInto(long h) {
            for (int which = BOUND; which <= PATIENCE; which++) {
                h = mix(h, values[which]);
            }
            return h;
        }
    }

    /** CABINS with their LOADS on the rim, THE TURN, and LEAN at each TURN. */
    private static final class Wheel {
        private static final int[] ARMS = {0, 10, 21, 31, 41, 50, 59, 67, 74, 81, 87, 91, 95, 98, 99, 100};

        private final int[] arms;
        private final int[] loads;
        // kept by TURN, since GREATEST LEAN is asked for each party in the line
        private final int[] leans;
        private int cabins;
        private int turn;

        Wheel() {
            arms = new int[MOST_CABINS];
            loads = new int[MOST_CABINS];
            leans = new int[MOST_CABINS];
            lay(CABINS_AT_FIRST);
        }

        /** How many sixtieths of the rim lie between two cabins; 0: no wheel has n of them. */
        static int sixtiethsApart(int n) {
            switch (n) {
                case 6: return 10;
                case 10: return 6;
                case 12: return 5;
                case 20: return 3;
                case 30: return 2;
                default: return 0;
            }
        }

        void lay(int n) {
            int apart = sixtiethsApart(n);
            if (apart == 0) {
                return;
            }
            cabins = n;
            turn = 0;
            Arrays.fill(loads, 0);
            Arrays.fill(leans, 0);
            for (int p = 0; p < n; p++) {
                arms[p] = armAtSixtieth(p * apart);
            }
        }

        private static int armAtSixtieth(int q) {
            int behind = q > 30 ? q - 30 : q;
            int off = Math.min(behind, 30 - behind);
            int size = off >= 0 && off < ARMS.length ? ARMS[off] : 0;
            return q > 30 ? -size : size;
        }

        /** Whether i is the number of a cabin, and so of a place and of a turn. */
        boolean has(int i) {
            return i >= 0 && i < cabins;
        }

        int count() {
            return cabins;
        }

        int turnNow() {
            return turn;
        }

        void turnTo(int t) {
            if (has(t)) {
                turn = t;
            }
        }

        int turnBehind(int t) {
            return t + 1 < cabins ? t + 1 : 0;
        }

        int turnAhead(int t) {
            return t > 0 ? t - 1 : cabins - 1;
        }

        int atDoor() {
            return atDoorWith(turn);
        }

        int atDoorWith(int t) {
            return t == 0 ? 0 : cabins - t;
        }

        /** The turn that brings a cabin to the door. */
        int turnFor(int c) {
            return c == 0 ? 0 : cabins - c;
        }

        int atTop() {
            int c = cabins / 2 - turn;
            return c >= 0 ? c : c + cabins;
        }

        int placeOf(int c) {
            return placeWith(c, turn);
        }

        private int placeWith(int c, int t) {
            return c + t < cabins ? c + t : c + t - cabins;
        }

        int armOf(int c, int t) {
            int p = placeWith(c, t);
            return has(p) ? arms[p] : 0;
        }

        int loadOf(int c) {
            return has(c) ? loads[c] : 0;
        }

        void addLoad(int c, int more) {
            if (!has(c)) {
                return;
            }
            loads[c] += more;
            for (int t = 0; t < cabins; t++) {
                leans[t] += more * armOf(c, t);
            }
        }

        int leanAt(int t) {
            return has(t) ? leans[t] : 0;
        }

        int greatestLean() {
            return greatestWith(0, 0);
        }

        /** GREATEST LEAN, if a cabin had so much more of a load. */
        int greatestWith(int c, int more) {
            int greatest = 0;
            for (int t = 0; t < cabins; t++) {
                greatest = Math.max(greatest, Math.abs(leans[t] + more * armOf(c, t)));
            }
            return greatest;
        }

        int worstTurn() {
            int worst = 0;
            for (int t = 1; t < cabins; t++) {
                if (Math.abs(leans[t]) > Math.abs(leans[worst])) {
                    worst = t;
                }
            }
            return worst;
        }
    }

    /** STEPS: the brake that warms, and the drive that helps or is gone. */
    private static final class Ride {
        private static final int TOO_GREAT = 1, TOO_HOT = 2, NO_DRIVE = 3, GOES = 0;

        private final Wheel wheel;
        private final Rules rules;
        private int warmth;
        private int steps;
        private boolean driven;

        Ride(Wheel wheel, Rules rules) {
            this.wheel = wheel;
            this.rules = rules;
            driven = true;
        }

        void startAnew() {
            warmth = 0;
            steps = 0;
        }

        int warmthNow() {
            return warmth;
        }

        int stepsDone() {
            return steps;
        }

        boolean isDriven() {
            return driven;
        }

        boolean setDriven(boolean is) {
            boolean was = driven;
            driven = is;
            return was;
        }

        private int leanAfterStep() {
            return wheel.leanAt(wheel.turnBehind(wheel.turnNow()));
        }

        private int warmthAfterStep() {
            int lean = leanAfterStep();
            if (lean < 0) {
                return warmth + -lean / 100;
            }
            return Math.max(0, warmth - rules.valueOf(Rules.COOLING));
        }

        int whyNot() {
            int lean = leanAfterStep();
            if (Math.abs(lean) > rules.valueOf(Rules.BOUND)) {
                return TOO_GREAT;
            }
            // HOT may have been set below a WARMTH that only falls: that is above HOT too
            if (warmthAfterStep() > rules.valueOf(Rules.HOT)) {
                return TOO_HOT;
            }
            return lean > 0 && !driven ? NO_DRIVE : GOES;
        }

        boolean goOn() {
            if (whyNot() != GOES) {
                return false;
            }
            warmth = warmthAfterStep();
            wheel.turnTo(wheel.turnBehind(wheel.turnNow()));
            steps++;
            return true;
        }
    }

    /** PARTIES as they came: who they are, where they are, and what befell them. */
    private static final class Parties {
        static final int WAITS = 100, GONE = 101;
        private static final int ALONE = 1;
        private static final int MOST_WISHES = 3;
        private static final int LIGHTEST = 5, HEAVIEST = 150;

        private final Row persons = new Row(MOST_PARTIES);
        private final Row weights = new Row(MOST_PARTIES);
        private final Row wishes = new Row(MOST_PARTIES);
        private final Row places = new Row(MOST_PARTIES);
        private final Row seen = new Row(MOST_PARTIES);
        private final Row passed = new Row(MOST_PARTIES);

        static boolean allows(int m, int a, int b, int c, int wishes) {
            return m >= 1 && m <= CABIN_HOLDS && weighs(a) && weighs(b) && weighs(c)
                && wishes >= 0 && wishes <= MOST_WISHES;
        }

        private static boolean weighs(int weight) {
            return weight >= LIGHTEST && weight <= HEAVIEST;
        }

        /** What m persons weigh together, if they weigh a, b, c, and again a, b, c. */
        static int together(int m, int a, int b, int c) {
            int sum = 0;
            for (int i = 0; i < m && i < CABIN_HOLDS; i++) {
                int third = i % 3;
                sum += third == 0 ? a : third == 1 ? b : c;
            }
            return sum;
        }

        void startAnew() {
            persons.clear();
            weights.clear();
            wishes.clear();
            places.clear();
            seen.clear();
            passed.clear();
        }

        int count() {
            return persons.count();
        }

        boolean hasRoom() {
            return persons.hasRoom();
        }

        int add(int m, int weight, int wish) {
            int p = count();
            persons.append(m);
            weights.append(weight);
            wishes.append(wish);
            places.append(WAITS);
            seen.append(0);
            passed.append(0);
            return p;
        }

        int personsOf(int p) {
            return persons.at(p);
        }

        int personsOfAll(Row some) {
            int sum = 0;
            for (int i = 0; i < some.count(); i++) {
                sum += persons.at(some.at(i));
            }
            return sum;
        }

        int weightOf(int p) {
            return weights.at(p);
        }

        boolean wantsAlone(int p) {
            return (wishes.at(p) & ALONE) != 0;
        }

        int placeOf(int p) {
            return places.at(p);
        }

        void moveTo(int p, int place) {
            places.set(p, place);
        }

        void see(int p) {
            seen.set(p, 1);
        }

        int timesPassed(int p) {
            return passed.at(p);
        }

        void passOver(int p) {
            passed.set(p, passed.at(p) + 1);
        }

        int tell(int p, int what) {
            if (p < 0 || p >= count()) {
                return UNKNOWN;
            }
            switch (what) {
                case 0: return persons.at(p);
                case 1: return weights.at(p);
                case 2: return wishes.at(p);
                case 3: return places.at(p);
                case 4: return seen.at(p);
                case 5: return passed.at(p);
                default: return OUTSIDE;
            }
        }

        long mixInto(long h) {
            for (int p = 0; p < count(); p++) {
                for (int what = 0; what <= 5; what++) {
                    h = mix(h, tell(p, what));
                }
            }
            return h;
        }
    }

    /** THE LINE, who is in which cabin, and who may board or leave at the door. */
    private static final class Riders {
        private static final int MOST_WAITING = 30;

        private final Wheel wheel;
        private final Rules rules;
        private final Parties parties;
        private final Row line;
        private final Row[] cabins;
        private final Row nobody;

        Riders(Wheel wheel, Rules rules) {
            this.wheel = wheel;
            this.rules = rules;
            parties = new Parties();
            line = new Row(MOST_WAITING);
            nobody = new Row(0);
            cabins = new Row[MOST_CABINS];
            for (int c = 0; c < MOST_CABINS; c++) {
                cabins[c] = new Row(CABIN_HOLDS);
            }
        }

        void startAnew() {
            parties.startAnew();
            line.clear();
            for (int c = 0; c < cabins.length; c++) {
                cabins[c].clear();
            }
        }

        private Row insideOf(int c) {
            return c >= 0 && c < cabins.length ? cabins[c] : nobody;
        }

        int partiesCome() {
            return parties.count();
        }

        int tellParty(int p, int what) {
            return parties.tell(p, what);
        }

        int partiesIn(int c) {
            return insideOf(c).count();
        }

        int partyIn(int c, int i) {
            return insideOf(c).at(i);
        }

        int personsIn(int c) {
            return parties.personsOfAll(insideOf(c));
        }

        int personsUp() {
            int sum = 0;
            for (int c = 0; c < wheel.count(); c++) {
                sum += personsIn(c);
            }
            return sum;
        }

        int personsWaiting() {
            return parties.personsOfAll(line);
        }

        boolean isAlone(int c) {
            Row inside = insideOf(c);
            for (int i = 0; i < inside.count(); i++) {
                if (parties.wantsAlone(inside.at(i))) {
                    return true;
                }
            }
            return false;
        }

        void showTop() {
            Row inside = insideOf(wheel.atTop());
            for (int i = 0; i < inside.count(); i++) {
                parties.see(inside.at(i));
            }
        }

        boolean takesMore() {
            return line.hasRoom() && parties.hasRoom();
        }

        int queueUp(int m, int weight, int wishes) {
            int p = parties.add(m, weight, wishes);
            line.append(p);
            return p;
        }

        int waiting(int k) {
            return line.at(k);
        }

        boolean mayBoard(int p) {
            int c = wheel.atDoor();
            if (personsIn(c) + parties.personsOf(p) > CABIN_HOLDS) {
                return false;
            }
            if (partiesIn(c) > 0 && (isAlone(c) || parties.wantsAlone(p))) {
                return false;
            }
            return wheel.greatestWith(c, parties.weightOf(p)) <= rules.valueOf(Rules.BOUND);
        }

        /** Where in the line THE NEXT stands. */
        private int placeOfNext() {
            int patience = rules.valueOf(Rules.PATIENCE);
            for (int k = 0; k < line.count(); k++) {
                int p = line.at(k);
                if (mayBoard(p)) {
                    return k;
                }
                // more than PATIENCE times, where PATIENCE was set lower since
                if (parties.timesPassed(p) >= patience) {
                    return NONE;
                }
            }
            return NONE;
        }

        int boardNext() {
            int k = placeOfNext();
            if (k == NONE) {
                return NONE;
            }
            for (int i = 0; i < k; i++) {
                parties.passOver(line.at(i));
            }
            int p = line.at(k);
            int c = wheel.atDoor();
            line.cut(k);
            insideOf(c).append(p);
            parties.moveTo(p, c);
            wheel.addLoad(c, parties.weightOf(p));
            return p;
        }

        int sendAway(int k) {
            int p = line.at(k);
            line.cut(k);
            parties.moveTo(p, Parties.GONE);
            return p;
        }

        boolean isAtDoor(int p) {
            return insideOf(wheel.atDoor()).placeOf(p) != NONE;
        }

        boolean mayLeave(int p) {
            int then = wheel.greatestWith(wheel.atDoor(), -parties.weightOf(p));
            return then <= rules.valueOf(Rules.BOUND) || then < wheel.greatestLean();
        }

        int getOff(int p) {
            int c = wheel.atDoor();
            Row inside = insideOf(c);
            inside.cut(inside.placeOf(p));
            parties.moveTo(p, Parties.GONE);
            wheel.addLoad(c, -parties.weightOf(p));
            return parties.personsOf(p);
        }

        /** All of a cabin get off: how many persons. */
        int vacate(int c) {
            int off = personsIn(c);
            Row inside = insideOf(c);
            for (int i = 0; i < inside.count(); i++) {
                parties.moveTo(inside.at(i), Parties.GONE);
            }
            inside.clear();
            wheel.addLoad(c, -wheel.loadOf(c));
            return off;
        }

        long mixInto(long h) {
            h = parties.mixInto(h);
            h = line.mixInto(h);
            for (int c = 0; c < wheel.count(); c++) {
                h = insideOf(c).mixInto(h);
            }
            return h;
        }
    }

    /** EMPTYING by an ORDER of all cabins with a load. */
    private static final class Emptying {
        private static final int MOST_LOADED = 6;
        private static final int ORDERS_OF_SIX = 720;
        private static final int MOST_TIMES = 30;
        private static final int FIGURES = 30;

        private final Wheel wheel;
        private final Row loaded;
        // an order names cabins by their places in the row of the loaded ones
        private final Row order;
        private final Row best;
        // LEAN at each turn, by which of the loaded cabins still have their load (as bits)
        private final int[][] leans;
        // behind the first i cabins of the order: orders that begin alike share what stands here
        private final int[] rests;
        private final int[] costs;
        private final int[] steps;
        private int bestCost;
        private int bestSteps;
        private int times;

        Emptying(Wheel wheel) {
            this.wheel = wheel;
            loaded = new Row(MOST_LOADED);
            order = new Row(MOST_LOADED);
            best = new Row(MOST_LOADED);
            leans = new int[1 << MOST_LOADED][MOST_CABINS];
            rests = new int[MOST_LOADED + 1];
            costs = new int[MOST_LOADED + 1];
            steps = new int[MOST_LOADED + 1];
        }

        int cabinsOfBest() {
            return best.count();
        }

        int cabinOfBest(int i) {
            return loaded.at(best.at(i));
        }

        int costOfBest() {
            return bestCost;
        }

        int stepsOfBest() {
            return bestSteps;
        }

        /** Looks which cabins have a load, the least number first; false: they are too many. */
        boolean gather() {
            loaded.clear();
            order.clear();
            for (int c = 0; c < wheel.count(); c++) {
                if (wheel.loadOf(c) == 0) {
                    continue;
                }
                if (!loaded.hasRoom()) {
                    return false;
                }
                order.append(loaded.count());
                loaded.append(c);
            }
            weighRests();
            return true;
        }

        private void weighRests() {
            for (int k = 0; k < loaded.count() && k < MOST_LOADED; k++) {
                int bit = 1 << k;
                int c = loaded.at(k);
                for (int t = 0; t < wheel.count() && t < MOST_CABINS; t++) {
                    int more = wheel.loadOf(c) * wheel.armOf(c, t);
                    for (int rest = 0; rest < bit; rest++) {
                        leans[rest + bit][t] = leans[rest][t] + more;
                    }
                }
            }
        }

        private int leanOfRest(int rest, int t) {
            boolean known = rest >= 0 && rest < 1 << MOST_LOADED && t >= 0 && t < MOST_CABINS;
            return known ? leans[rest][t] : 0;
        }

        /** THE BEST ORDER; false: it may not be asked. */
        boolean findBest() {
            if (times >= MOST_TIMES || !gather()) {
                return false;
            }
            times++;
            measureFrom(0);
            keepAsBest();
            int from = toNextOrder();
            for (int i = 0; i < ORDERS_OF_SIX && from != NONE; i++) {
                measureFrom(from);
                // orders come by their numbers, so of like ones the first stays
                if (isBetter()) {
                    keepAsBest();
                }
                from = toNextOrder();
            }
            return true;
        }

        private boolean isBetter() {
            return wholeCost() < bestCost || wholeCost() == bestCost && wholeSteps() < bestSteps;
        }

        private void keepAsBest() {
            best.copyFrom(order);
            bestCost = wholeCost();
            bestSteps = wholeSteps();
        }

        private int wholeCost() {
            int i = order.count();
            return i < costs.length ? costs[i] : 0;
        }

        private int wholeSteps() {
            int i = order.count();
            return i < steps.length ? steps[i] : 0;
        }

        /** Puts the order that follows by its numbers: the first place that changed; NONE: it was the last. */
        private int toNextOrder() {
            int i = order.count() - 2;
            while (i >= 0 && order.at(i) > order.at(i + 1)) {
                i--;
            }
            if (i < 0) {
                return NONE;
            }
            int j = order.count() - 1;
            while (j > i && order.at(j) < order.at(i)) {
                j--;
            }
            order.swap(i, j);
            for (int low = i + 1, high = order.count() - 1; low < high; low++, high--) {
                order.swap(low, high);
            }
            return i;
        }

        /** Measures the order as it stands from a place on. */
        private void measureFrom(int from) {
            rests[0] = (1 << loaded.count()) - 1;
            for (int i = Math.max(0, from); i < order.count() && i < MOST_LOADED; i++) {
                int turn = i == 0 ? wheel.turnNow() : turnFor(order.at(i - 1));
                int end = turnFor(order.at(i));
                int cost = costs[i];
                int way = 0;
                while (turn != end && way < MOST_CABINS) {
                    turn = wheel.turnBehind(turn);
                    way++;
                    cost = Math.max(cost, Math.abs(leanOfRest(rests[i], turn)));
                }
                rests[i + 1] = rests[i] & ~(1 << order.at(i));
                costs[i + 1] = cost;
                steps[i + 1] = steps[i] + way;
            }
        }

        /** The turn that brings the k-th of the loaded cabins to the door. */
        private int turnFor(int k) {
            return wheel.turnFor(loaded.at(k));
        }

        /** Takes the order of the gathered cabins from its figures; false: they do not name each of them once. */
        boolean takeFigures(int figures) {
            int unnamed = (1 << loaded.count()) - 1;
            int rest = figures;
            for (int i = order.count() - 1; i >= 0; i--) {
                int k = rest < 0 ? NONE : loaded.placeOf(rest % FIGURES);
                if (k == NONE) {
                    return false;
                }
                order.set(i, k);
                unnamed &= ~(1 << k);
                rest /= FIGURES;
            }
            return rest == 0 && unnamed == 0;
        }

        int costAsItStands() {
            measureFrom(0);
            return wholeCost();
        }
    }

    /** ROLLING by its own weights, and LETTING OUT: tried on a copy of the leans. */
    private static final class Rolling {
        private final Wheel wheel;
        private final Riders riders;
        private final int[] leans;
        private final Row emptied;
        private int turn;

        Rolling(Wheel wheel, Riders riders) {
            this.wheel = wheel;
            this.riders = riders;
            leans = new int[MOST_CABINS];
            emptied = new Row(MOST_CABINS);
        }

        int rollNow() {
            copyWheel();
            int way = toRest();
            wheel.turnTo(turn);
            return way;
        }

        int letAllOut() {
            tryLettingOut();
            int off = 0;
            for (int i = 0; i < emptied.count(); i++) {
                off += riders.vacate(emptied.at(i));
            }
            wheel.turnTo(turn);
            return off;
        }

        int wouldStrand() {
            tryLettingOut();
            int up = riders.personsUp();
            for (int i = 0; i < emptied.count(); i++) {
                up -= riders.personsIn(emptied.at(i));
            }
            return up;
        }

        private void copyWheel() {
            turn = wheel.turnNow();
            for (int t = 0; t < wheel.count() && t < leans.length; t++) {
                leans[t] = wheel.leanAt(t);
            }
        }

        private int leanAt(int t) {
            return t >= 0 && t < leans.length ? leans[t] : 0;
        }

        /** Rolls until it rests: how many places it went, back below 0. */
        private int toRest() {
            int way = 0;
            for (int i = 0; i < wheel.count() && leanAt(turn) != 0; i++) {
                boolean back = leanAt(turn) > 0;
                int to = back ? wheel.turnAhead(turn) : wheel.turnBehind(turn);
                if (back ? leanAt(to) < 0 : leanAt(to) > 0) {
                    return way;
                }
                turn = to;
                way += back ? -1 : 1;
            }
            return way;
        }

        /** Which cabins come to be emptied, and at which turn it ends. */
        private void tryLettingOut() {
            copyWheel();
            emptied.clear();
            for (int i = 0; i <= wheel.count(); i++) {
                toRest();
                int c = wheel.atDoorWith(turn);
                if (wheel.loadOf(c) == 0 || emptied.placeOf(c) != NONE) {
                    return;
                }
                emptied.append(c);
                takeOff(c);
            }
        }

        private void takeOff(int c) {
            for (int t = 0; t < wheel.count() && t < leans.length; t++) {
                leans[t] -= wheel.loadOf(c) * wheel.armOf(c, t);
            }
        }
    }

    /** NOTES with gaps, and how many may be UP by them. */
    private static final class Notes {
        private static final int MOST_NOTES = 40;
        private static final int CAME_IN = 0, WENT_OUT = 1, NOBODY_LOOKED = 2;
        private static final int MOST_OF_A_NOTE = 36;

        private final Wheel wheel;
        private final Row sorts;
        private final Row numbers;
        // a run of numbers stays one behind each note, so its ends tell all
        private int least;
        private int most;

        Notes(Wheel wheel) {
            this.wheel = wheel;
            sorts = new Row(MOST_NOTES);
            numbers = new Row(MOST_NOTES);
        }

        static boolean allows(int sort, int k) {
            if (sort == NOBODY_LOOKED) {
                return k == 0;
            }
            return (sort == CAME_IN || sort == WENT_OUT) && k >= 0 && k <= MOST_OF_A_NOTE;
        }

        /** No notes any more: how many there were. */
        int startAnew() {
            int were = sorts.count();
            sorts.clear();
            numbers.clear();
            return were;
        }

        int write(int sort, int k) {
            if (!sorts.hasRoom()) {
                return FULL;
            }
            sorts.append(sort);
            numbers.append(k);
            return sorts.count();
        }

        private int mostUpEver() {
            return CABIN_HOLDS * wheel.count();
        }

        boolean mayBeUp(int number) {
            return number >= 0 && number <= mostUpEver();
        }

        int leastUp() {
            return least;
        }

        int mostUp() {
            return most;
        }

        /** What may be up at the end, from a number at the begin; false: nothing may. */
        boolean follow(int begin) {
            least = begin;
            most = begin;
            for (int i = 0; i < sorts.count(); i++) {
                if (!pass(sorts.at(i), numbers.at(i))) {
                    return false;
                }
            }
            return true;
        }

        int countBegins() {
            least = 0;
            most = mostUpEver();
            for (int i = sorts.count() - 1; i >= 0; i--) {
                if (!pass(turnedBack(sorts.at(i)), numbers.at(i))) {
                    return 0;
                }
            }
            return most - least + 1;
        }

        /** The sort of note that undoes a note: going back, who came in goes out. */
        private static int turnedBack(int sort) {
            if (sort == NOBODY_LOOKED) {
                return NOBODY_LOOKED;
            }
            return sort == CAME_IN ? WENT_OUT : CAME_IN;
        }

        private boolean pass(int sort, int k) {
            least += sort == CAME_IN ? k : sort == WENT_OUT ? -k : -MOST_OF_A_NOTE;
            most += sort == CAME_IN ? k : sort == WENT_OUT ? -k : MOST_OF_A_NOTE;
            least = Math.max(0, least);
            most = Math.min(mostUpEver(), most);
            return least <= most;
        }

        long mixInto(long h) {
            for (int i = 0; i < sorts.count(); i++) {
                h = mix(mix(h, sorts.at(i)), numbers.at(i));
            }
            return h;
        }
    }

    /** GUESSES of the loads, READINGS of leans, and what is NARROWED by them. */
    private static final class Readings {
        private static final int MOST_READINGS = 12;
        private static final int MOST_LOAD = 900;
        private static final int MOST_LEAN = 2000000;
        private static final int MOST_MISS = 100000;

        private final Wheel wheel;
        private final int[] guessedLows;
        private final int[] guessedHighs;
        private final int[] lows;
        private final int[] highs;
        private final Row turns;
        private final Row leans;
        private final Row misses;

        Readings(Wheel wheel) {
            this.wheel = wheel;
            guessedLows = new int[MOST_CABINS];
            guessedHighs = new int[MOST_CABINS];
            lows = new int[MOST_CABINS];
            highs = new int[MOST_CABINS];
            turns = new Row(MOST_READINGS);
            leans = new Row(MOST_READINGS);
            misses = new Row(MOST_READINGS);
            startAnew();
        }

        void startAnew() {
            dropAll();
            Arrays.fill(guessedLows, 0);
            Arrays.fill(guessedHighs, MOST_LOAD);
        }

        /** No readings any more: how many there were. */
        int dropAll() {
            int were = turns.count();
            turns.clear();
            leans.clear();
            misses.clear();
            return were;
        }

        private static boolean holds(int c) {
            return c >= 0 && c < MOST_CABINS;
        }

        boolean suppose(int c, int low, int high) {
            if (!holds(c) || low < 0 || low > high || high > MOST_LOAD) {
                return false;
            }
            guessedLows[c] = low;
            guessedHighs[c] = high;
            return true;
        }

        static boolean allows(int v, int miss) {
            return v >= -MOST_LEAN && v <= MOST_LEAN && miss >= 0 && miss <= MOST_MISS;
        }

        int write(int r, int v, int miss) {
            if (!turns.hasRoom()) {
                return FULL;
            }
            turns.append(r);
            leans.append(v);
            misses.append(miss);
            return turns.count();
        }

        int lowOf(int c) {
            return holds(c) ? lows[c] : NONE;
        }

        int highOf(int c) {
            return holds(c) ? highs[c] : NONE;
        }

        /** Narrows the guesses by all readings: the reading at which nothing is left, or NONE. */
        int narrow() {
            System.arraycopy(guessedLows, 0, lows, 0, MOST_CABINS);
            System.arraycopy(guessedHighs, 0, highs, 0, MOST_CABINS);
            for (int i = 0; i < turns.count(); i++) {
                if (!narrowBy(i)) {
                    return i;
                }
            }
            return NONE;
        }

        private boolean narrowBy(int i) {
            int turn = turns.at(i);
            int least = 0;
            int most = 0;
            for (int c = 0; c < wheel.count(); c++) {
                least += leastOf(c, turn);
                most += mostOf(c, turn);
            }
            for (int c = 0; c < wheel.count(); c++) {
                int leastOfOthers = least - leastOf(c, turn);
                int mostOfOthers = most - mostOf(c, turn);
                int from = leans.at(i) - misses.at(i) - mostOfOthers;
                int to = leans.at(i) + misses.at(i) - leastOfOthers;
                if (!narrowCabin(c, wheel.armOf(c, turn), from, to)) {
                    return false;
                }
                least = leastOfOthers + leastOf(c, turn);
                most = mostOfOthers + mostOf(c, turn);
            }
            return true;
        }

        private int leastOf(int c, int turn) {
            int arm = wheel.armOf(c, turn);
            return arm * (arm > 0 ? lowOf(c) : highOf(c));
        }

        private int mostOf(int c, int turn) {
            int arm = wheel.armOf(c, turn);
            return arm * (arm > 0 ? highOf(c) : lowOf(c));
        }

        /** Leaves the loads of a cabin that lean it from so much to so much; false: there is none. */
        private boolean narrowCabin(int c, int arm, int from, int to) {
            if (arm == 0 || !holds(c)) {
                return from <= 0 && to >= 0;
            }
            lows[c] = Math.max(lows[c], dividedUp(arm > 0 ? from : to, arm));
            highs[c] = Math.min(highs[c], dividedDown(arm > 0 ? to : from, arm));
            return lows[c] <= highs[c];
        }

        private static int dividedDown(int number, int by) {
            return by == 0 ? 0 : Math.floorDiv(number, by);
        }

        private static int dividedUp(int number, int by) {
            return -dividedDown(-number, by);
        }

        int countAgreeing() {
            int count = 0;
            for (int c = 0; c < wheel.count(); c++) {
                int load = wheel.loadOf(c);
                if (load >= lowOf(c) && load <= highOf(c)) {
                    count++;
                }
            }
            return count;
        }

        long mixInto(long h) {
            for (int c = 0; c < wheel.count() && c < MOST_CABINS; c++) {
                h = mix(mix(h, guessedLows[c]), guessedHighs[c]);
            }
            for (int i = 0; i < turns.count(); i++) {
                h = mix(mix(mix(h, turns.at(i)), leans.at(i)), misses.at(i));
            }
            return h;
        }
    }
}
