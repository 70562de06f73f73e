import java.util.ArrayList;
import java.util.Arrays;
import java.util.List;
import java.util.TreeSet;

/**
 * The document once more, told in the plainest way and without a thought for room or speed:
 * every lean is summed up anew, every order is walked, every number that may be up is kept.
 */
final class PlainWheel {
    private static final int NONE = -1, UNKNOWN = -101, OUTSIDE = -102, STATE = -103, FULL = -104;
    private static final int[] ARMS = {0, 10, 21, 31, 41, 50, 59, 67, 74, 81, 87, 91, 95, 98, 99, 100};

    private static final class Party {
        int number, persons, weight, wishes, passed;
        int place = 100;
        boolean seen;

        boolean alone() {
            return wishes % 2 == 1;
        }
    }

    private int n = 6, turn, warmth, steps, ordersDone;
    private int bound = 60000, hot = 3000, cooling = 20, patience = 5;
    private boolean driven = true;
    private List<Party> parties = new ArrayList<>();
    private List<Party> line = new ArrayList<>();
    private List<List<Party>> cabins = emptyCabins();
    private List<int[]> notes = new ArrayList<>();
    private List<int[]> readings = new ArrayList<>();
    private int[][] guesses = firstGuesses();

    private List<List<Party>> emptyCabins() {
        List<List<Party>> all = new ArrayList<>();
        for (int c = 0; c < n; c++) {
            all.add(new ArrayList<>());
        }
        return all;
    }

    private int[][] firstGuesses() {
        int[][] all = new int[n][];
        for (int c = 0; c < n; c++) {
            all[c] = new int[] {0, 900};
        }
        return all;
    }

    int build(int size) {
        if (!List.of(6, 10, 12, 20, 30).contains(size)) {
            return OUTSIDE;
        }
        n = size;
        turn = 0;
        warmth = 0;
        steps = 0;
        parties = new ArrayList<>();
        line = new ArrayList<>();
        cabins = emptyCabins();
        notes = new ArrayList<>();
        readings = new ArrayList<>();
        guesses = firstGuesses();
        return n;
    }

    private boolean isOne(int i) {
        return i >= 0 && i < n;
    }

    int arm(int p) {
        if (!isOne(p)) {
            return -1000;
        }
        int q = 60 * p / n;
        int u = Math.min(Math.abs(q), Math.min(Math.abs(q - 30), Math.abs(q - 60)));
        return q > 30 ? -ARMS[u] : ARMS[u];
    }

    private int cabinAt(int place, int r) {
        for (int c = 0; c < n; c++) {
            if ((c + r) % n == place) {
                return c;
            }
        }
        return NONE;
    }

    private int door() {
        return cabinAt(0, turn);
    }

    int told(int what) {
        switch (what) {
            case 0: return turn;
            case 1: return warmth;
            case 2: return door();
            case 3: return cabinAt(n / 2, turn);
            case 4: return cabins.stream().mapToInt(PlainWheel::persons).sum();
            case 5: return persons(line);
            case 6: return steps;
            case 7: return parties.size();
            case 8: return driven ? 1 : 0;
            default: return OUTSIDE;
        }
    }

    private static int persons(List<Party> some) {
        return some.stream().mapToInt(party -> party.persons).sum();
    }

    private static int weight(List<Party> some) {
        return some.stream().mapToInt(party -> party.weight).sum();
    }

    int rule(int which, int v) {
        int was;
        switch (which) {
            case 0:
                was = bound;
                if (v < 0 || v > 1000000) return OUTSIDE;
                bound = v;
                return was;
            case 1:
                was = hot;
                if (v < 100 || v > 10000) return OUTSIDE;
                hot = v;
                return was;
            case 2:
                was = cooling;
                if (v < 0 || v > 500) return OUTSIDE;
                cooling = v;
                return was;
            case 3:
                was = patience;
                if (v < 1 || v > 20) return OUTSIDE;
                patience = v;
                return was;
            default:
                return UNKNOWN;
        }
    }

    int drive(boolean is) {
        int was = driven ? 1 : 0;
        driven = is;
        return was;
    }

    private int[] loads() {
        int[] loads = new int[n];
        for (int c = 0; c < n; c++) {
            loads[c] = weight(cabins.get(c));
        }
        return loads;
    }

    private int leanOf(int[] loads, int r) {
        int sum = 0;
        for (int c = 0; c < n; c++) {
            sum += loads[c] * arm((c + r) % n);
        }
        return sum;
    }

    private int greatestOf(int[] loads) {
        int greatest = 0;
        for (int r = 0; r < n; r++) {
            greatest = Math.max(greatest, Math.abs(leanOf(loads, r)));
        }
        return greatest;
    }

    int lean(int r) {
        return isOne(r) ? leanOf(loads(), r) : -1000000001;
    }

    int greatest() {
        return greatestOf(loads());
    }

    int worst() {
        int r = 0;
        while (Math.abs(lean(r)) != greatest()) {
            r++;
        }
        return r;
    }

    int load(int c) {
        return isOne(c) ? loads()[c] : UNKNOWN;
    }

    int cabin(int c, int what) {
        if (!isOne(c)) {
            return UNKNOWN;
        }
        switch (what) {
            case 0: return persons(cabins.get(c));
            case 1: return cabins.get(c).size();
            case 2: return cabins.get(c).stream().anyMatch(Party::alone) ? 1 : 0;
            case 3: return (c + turn) % n;
            default: return OUTSIDE;
        }
    }

    int inside(int c, int i) {
        if (!isOne(c)) {
            return UNKNOWN;
        }
        return i >= 0 && i < cabins.get(c).size() ? cabins.get(c).get(i).number : NONE;
    }

    int step() {
        if (why() != 0) {
            return STATE;
        }
        int lean = lean((turn + 1) % n);
        warmth = lean < 0 ? warmth + Math.abs(lean) / 100 : Math.max(0, warmth - cooling);
        turn = (turn + 1) % n;
        steps++;
        return turn;
    }

    int why() {
        int lean = lean((turn + 1) % n);
        int then = lean < 0 ? warmth + Math.abs(lean) / 100 : Math.max(0, warmth - cooling);
        if (Math.abs(lean) > bound) {
            return 1;
        }
        if (then > hot) {
            return 2;
        }
        return lean > 0 && !driven ? 3 : 0;
    }

    int stop(int m) {
        if (m < 0 || m > 60) {
            return OUTSIDE;
        }
        int done = 0;
        while (done < m && step() != STATE) {
            done++;
        }
        cabins.get(told(3)).forEach(party -> party.seen = true);
        return done;
    }

    int come(int m, int a, int b, int c, int wishes) {
        if (m < 1 || m > 6 || wishes < 0 || wishes > 3) {
            return OUTSIDE;
        }
        for (int w : new int[] {a, b, c}) {
            if (w < 5 || w > 150) {
                return OUTSIDE;
            }
        }
        if (line.size() == 30 || parties.size() == 200) {
            return FULL;
        }
        int[] all = {a, b, c, a, b, c};
        Party party = new Party();
        party.number = parties.size();
        party.persons = m;
        party.weight = Arrays.stream(all, 0, m).sum();
        party.wishes = wishes;
        parties.add(party);
        line.add(party);
        return party.number;
    }

    int waits(int k) {
        return k >= 0 && k < line.size() ? line.get(k).number : NONE;
    }

    private boolean mayBoard(Party party) {
        List<Party> inside = cabins.get(door());
        if (persons(inside) + party.persons > 6) {
            return false;
        }
        if (!inside.isEmpty() && (party.alone() || inside.stream().anyMatch(Party::alone))) {
            return false;
        }
        int[] loads = loads();
        loads[door()] += party.weight;
        return greatestOf(loads) <= bound;
    }

    int may(int k) {
        if (k < 0 || k >= line.size()) {
            return UNKNOWN;
        }
        return mayBoard(line.get(k)) ? 1 : 0;
    }

    int next() {
        List<Party> ahead = new ArrayList<>();
        for (Party party : line) {
            if (mayBoard(party)) {
                ahead.forEach(one -> one.passed++);
                line.remove(party);
                cabins.get(door()).add(party);
                party.place = door();
                return party.number;
            }
            if (party.passed >= patience) {
                return NONE;
            }
            ahead.add(party);
        }
        return NONE;
    }

    int fill() {
        int boarded = 0;
        while (next() != NONE) {
            boarded++;
        }
        return boarded;
    }

    int tire(int k) {
        if (k < 0 || k >= line.size()) {
            return UNKNOWN;
        }
        Party party = line.remove(k);
        party.place = 101;
        return party.number;
    }

    int leave(int p) {
        if (p < 0 || p >= parties.size() || parties.get(p).place != door()) {
            return UNKNOWN;
        }
        Party party = parties.get(p);
        int[] loads = loads();
        loads[door()] -= party.weight;
        int then = greatestOf(loads);
        if (then > bound && then >= greatest()) {
            return STATE;
        }
        cabins.get(door()).remove(party);
        party.place = 101;
        return party.persons;
    }

    int party(int p, int what) {
        if (p < 0 || p >= parties.size()) {
            return UNKNOWN;
        }
        Party party = parties.get(p);
        switch (what) {
            case 0: return party.persons;
            case 1: return party.weight;
            case 2: return party.wishes;
            case 3: return party.place;
            case 4: return party.seen ? 1 : 0;
            case 5: return party.passed;
            default: return OUTSIDE;
        }
    }

    private List<Integer> loaded() {
        List<Integer> all = new ArrayList<>();
        for (int c = 0; c < n; c++) {
            if (loads()[c] > 0) {
                all.add(c);
            }
        }
        return all;
    }

    /** Cost and steps of an order. */
    private int[] walk(List<Integer> order) {
        int[] loads = loads();
        int r = turn;
        int cost = 0;
        int way = 0;
        for (int c : order) {
            while (cabinAt(0, r) != c) {
                r = (r + 1) % n;
                way++;
                cost = Math.max(cost, Math.abs(leanOf(loads, r)));
            }
            loads[c] = 0;
        }
        return new int[] {cost, way};
    }

    private void allOrders(List<Integer> begun, List<Integer> rest, List<List<Integer>> into) {
        if (rest.isEmpty()) {
            into.add(begun);
        }
        for (Integer c : rest) {
            List<Integer> longer = new ArrayList<>(begun);
            longer.add(c);
            List<Integer> fewer = new ArrayList<>(rest);
            fewer.remove(c);
            allOrders(longer, fewer, into);
        }
    }

    /** The best order; null: it may not be asked. */
    private List<Integer> bestOrder() {
        if (loaded().size() > 6 || ordersDone == 30) {
            return null;
        }
        ordersDone++;
        List<List<Integer>> all = new ArrayList<>();
        allOrders(List.of(), loaded(), all);
        List<Integer> best = null;
        int[] least = null;
        for (List<Integer> order : all) {
            int[] walked = walk(order);
            if (best == null || Arrays.compare(walked, least) < 0
                || Arrays.equals(walked, least) && comesFirst(order, best)) {
                best = order;
                least = walked;
            }
        }
        return best;
    }

    private static boolean comesFirst(List<Integer> one, List<Integer> other) {
        return Arrays.compare(one.toArray(new Integer[0]), other.toArray(new Integer[0])) < 0;
    }

    int order(int what) {
        if (what < 0 || what > 1) {
            return OUTSIDE;
        }
        List<Integer> best = bestOrder();
        if (best == null) {
            return STATE;
        }
        return best.isEmpty() ? NONE : walk(best)[what];
    }

    int ordered(int i) {
        List<Integer> best = bestOrder();
        if (best == null) {
            return STATE;
        }
        return i >= 0 && i < best.size() ? best.get(i) : NONE;
    }

    /** How many orders are as good as the best one. */
    int bestOrders() {
        List<List<Integer>> all = new ArrayList<>();
        allOrders(List.of(), loaded(), all);
        int[] least = null;
        int like = 0;
        for (List<Integer> order : all) {
            int[] walked = walk(order);
            if (least == null || Arrays.compare(walked, least) < 0) {
                least = walked;
                like = 0;
            }
            if (Arrays.equals(walked, least)) {
                like++;
            }
        }
        return like;
    }

    int cost(int figures) {
        if (loaded().size() > 6) {
            return STATE;
        }
        List<List<Integer>> all = new ArrayList<>();
        allOrders(List.of(), loaded(), all);
        for (List<Integer> order : all) {
            int told = 0;
            for (int c : order) {
                told = 30 * told + c;
            }
            if (told == figures) {
                return walk(order)[0];
            }
        }
        return OUTSIDE;
    }

    private int rollOn(int[] loads, int from) {
        int way = 0;
        while (true) {
            int r = Math.floorMod(from + way, n);
            int lean = leanOf(loads, r);
            if (lean > 0 && leanOf(loads, (r + n - 1) % n) >= 0) {
                way--;
            } else if (lean < 0 && leanOf(loads, (r + 1) % n) <= 0) {
                way++;
            } else {
                return way;
            }
        }
    }

    int roll() {
        int way = rollOn(loads(), turn);
        turn = Math.floorMod(turn + way, n);
        return way;
    }

    int letOut() {
        int off = 0;
        while (true) {
            roll();
            List<Party> inside = cabins.get(door());
            if (inside.isEmpty()) {
                return off;
            }
            off += persons(inside);
            inside.forEach(party -> party.place = 101);
            inside.clear();
        }
    }

    int stranded() {
        int[] loads = loads();
        int r = turn;
        int up = told(4);
        while (true) {
            r = Math.floorMod(r + rollOn(loads, r), n);
            int c = cabinAt(0, r);
            if (loads[c] == 0) {
                return up;
            }
            loads[c] = 0;
            up -= persons(cabins.get(c));
        }
    }

    int note(int sort, int k) {
        if (sort < 0 || sort > 2 || k < 0 || k > (sort == 2 ? 0 : 36)) {
            return OUTSIDE;
        }
        if (notes.size() == 40) {
            return FULL;
        }
        notes.add(new int[] {sort, k});
        return notes.size();
    }

    private TreeSet<Integer> upFrom(int begin) {
        TreeSet<Integer> up = new TreeSet<>();
        up.add(begin);
        for (int[] note : notes) {
            TreeSet<Integer> then = new TreeSet<>();
            for (int number : up) {
                int from = note[0] == 0 ? number + note[1] : note[0] == 1 ? number - note[1] : number - 36;
                int to = note[0] == 2 ? number + 36 : from;
                for (int now = from; now <= to; now++) {
                    if (now >= 0 && now <= 6 * n) {
                        then.add(now);
                    }
                }
            }
            up = then;
        }
        return up;
    }

    int up(int begin, int side) {
        if (begin < 0 || begin > 6 * n || side < 0 || side > 1) {
            return OUTSIDE;
        }
        TreeSet<Integer> up = upFrom(begin);
        if (up.isEmpty()) {
            return NONE;
        }
        return side == 0 ? up.first() : up.last();
    }

    int begins() {
        int count = 0;
        for (int begin = 0; begin <= 6 * n; begin++) {
            count += upFrom(begin).isEmpty() ? 0 : 1;
        }
        return count;
    }

    int tear() {
        int were = notes.size();
        notes.clear();
        return were;
    }

    int guess(int c, int low, int high) {
        if (!isOne(c)) {
            return UNKNOWN;
        }
        if (low < 0 || high > 900 || low > high) {
            return OUTSIDE;
        }
        guesses[c] = new int[] {low, high};
        return 1;
    }

    int read(int r, int v, int miss) {
        if (!isOne(r)) {
            return UNKNOWN;
        }
        if (v < -2000000 || v > 2000000 || miss < 0 || miss > 100000) {
            return OUTSIDE;
        }
        if (readings.size() == 12) {
            return FULL;
        }
        readings.add(new int[] {r, v, miss});
        return readings.size();
    }

    int forget() {
        int were = readings.size();
        readings.clear();
        return were;
    }

    /** What is narrowed, a row a cabin; behind them, if nothing is left, a row with the reading at fault. */
    private List<int[]> narrowed() {
        List<int[]> now = new ArrayList<>();
        for (int[] guess : guesses) {
            now.add(guess.clone());
        }
        for (int i = 0; i < readings.size(); i++) {
            for (int c = 0; c < n; c++) {
                int[] fitting = fitting(now, c, readings.get(i));
                if (fitting == null) {
                    now.add(new int[] {i});
                    return now;
                }
                now.set(c, fitting);
            }
        }
        return now;
    }

    /** The least and the greatest load of a cabin that a reading leaves; null: there is none. */
    private int[] fitting(List<int[]> now, int c, int[] reading) {
        int least = 0;
        int most = 0;
        for (int other = 0; other < n; other++) {
            if (other != c) {
                int arm = arm((other + reading[0]) % n);
                least += Math.min(arm * now.get(other)[0], arm * now.get(other)[1]);
                most += Math.max(arm * now.get(other)[0], arm * now.get(other)[1]);
            }
        }
        int[] fitting = null;
        for (int load = now.get(c)[0]; load <= now.get(c)[1]; load++) {
            int own = load * arm((c + reading[0]) % n);
            if (own + least <= reading[1] + reading[2] && own + most >= reading[1] - reading[2]) {
                fitting = new int[] {fitting == null ? load : fitting[0], load};
            }
        }
        return fitting;
    }

    int fit(int c, int side) {
        if (!isOne(c)) {
            return UNKNOWN;
        }
        if (side < 0 || side > 1) {
            return OUTSIDE;
        }
        return breaks() == NONE ? narrowed().get(c)[side] : NONE;
    }

    int breaks() {
        List<int[]> now = narrowed();
        return now.size() > n ? now.get(n)[0] : NONE;
    }

    int agree() {
        if (breaks() != NONE) {
            return NONE;
        }
        List<int[]> now = narrowed();
        int count = 0;
        for (int c = 0; c < n; c++) {
            count += now.get(c)[0] <= load(c) && load(c) <= now.get(c)[1] ? 1 : 0;
        }
        return count;
    }

    long digest() {
        List<Integer> all = new ArrayList<>(List.of(n, told(0), told(1), told(6), told(7), told(8)));
        all.addAll(List.of(bound, hot, cooling, patience));
        for (int p = 0; p < parties.size(); p++) {
            for (int what = 0; what <= 5; what++) {
                all.add(party(p, what));
            }
        }
        line.forEach(party -> all.add(party.number));
        cabins.forEach(inside -> inside.forEach(party -> all.add(party.number)));
        notes.forEach(note -> all.addAll(List.of(note[0], note[1])));
        Arrays.stream(guesses).forEach(guess -> all.addAll(List.of(guess[0], guess[1])));
        readings.forEach(reading -> all.addAll(List.of(reading[0], reading[1], reading[2])));
        long h = 211;
        for (int number : all) {
            h = 31 * h + number;
        }
        return h;
    }
}
