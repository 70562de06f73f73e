import java.util.Random;

/** Runs of calls, the same ones each time, on EvenWheel and on PlainWheel: both answer the same, and are the same behind each. */
public final class SameAsPlainTest {
    private static final int RUNS = 600;
    // those that an object is used for: what else the runs want to know, PlainWheel is asked
    private static final int CALLS = 512;
    private static final int[] SIZES = {6, 10, 12, 20, 30};
    private static final int[] ODD = {-1, 0, 1, 7, 31, 37, 61, 901, Integer.MIN_VALUE, Integer.MAX_VALUE};

    private final Check check;
    private final Random random;
    private final EvenWheel x = new EvenWheel();
    private final PlainWheel y = new PlainWheel();
    private int n = 6;
    // how one run differs from another
    private final int oddOnesIn;
    private final int mostPersons;
    private final int mostWeight;
    private final boolean buildsOften;

    private SameAsPlainTest(Check check, long seed) {
        this.check = check;
        random = new Random(seed);
        oddOnesIn = 4 + random.nextInt(40);
        mostPersons = 1 + random.nextInt(6);
        mostWeight = 10 + random.nextInt(141);
        buildsOften = random.nextInt(8) == 0;
    }

    public static void main(String[] args) {
        Check check = new Check("SameAsPlainTest");
        for (int seed = 0; seed < RUNS && check.wrongOnes() < 5; seed++) {
            new SameAsPlainTest(check, seed).run(seed);
        }
        check.end();
    }

    private void run(int seed) {
        int size = SIZES[random.nextInt(SIZES.length)];
        same(seed, 0, "build(" + size + ")", x.build(size), y.build(size));
        n = size;
        for (int i = 1; i < CALLS / 2 && check.wrongOnes() < 5; i++) {
            call(seed, i, random.nextInt(100));
            same(seed, i, "digest()", x.digest(), y.digest());
        }
    }

    private void same(int seed, int i, String call, long got, long due) {
        check.is("run " + seed + ", call " + i + ": " + call, got, due);
    }

    /** A number from low to high, or now and then an odd one. */
    private int number(int low, int high) {
        if (random.nextInt(oddOnesIn) == 0) {
            return ODD[random.nextInt(ODD.length)];
        }
        return low + random.nextInt(high - low + 1);
    }

    private void call(int seed, int i, int which) {
        if (which < 36) {
            callToRide(seed, i, which);
        } else if (which < 58) {
            callToLook(seed, i, which);
        } else if (which < 78) {
            callToEmpty(seed, i, which);
        } else {
            callToNote(seed, i, which);
        }
    }

    private void callToRide(int seed, int i, int which) {
        if (which < 12) {
            int m = number(1, mostPersons);
            int a = number(5, mostWeight);
            int b = number(5, mostWeight);
            int c = number(5, mostWeight);
            int wishes = random.nextInt(3) > 0 ? 0 : number(0, 3);
            String call = "come(" + m + ", " + a + ", " + b + ", " + c + ", " + wishes + ")";
            same(seed, i, call, x.come(m, a, b, c, wishes), y.come(m, a, b, c, wishes));
        } else if (which < 17) {
            same(seed, i, "next()", x.next(), y.next());
        } else if (which < 20) {
            same(seed, i, "fill()", x.fill(), y.fill());
        } else if (which < 26) {
            int m = number(0, random.nextInt(4) > 0 ? 4 : 60);
            same(seed, i, "stop(" + m + ")", x.stop(m), y.stop(m));
        } else if (which < 28) {
            same(seed, i, "step()", x.step(), y.step());
        } else if (which < 31) {
            int p = number(0, Math.max(1, y.told(7)));
            int c = y.told(2);
            p = random.nextBoolean() ? p : y.inside(c, 0);
            same(seed, i, "leave(" + p + ")", x.leave(p), y.leave(p));
        } else if (which < 33) {
            int k = number(0, 5);
            same(seed, i, "tire(" + k + ")", x.tire(k), y.tire(k));
        } else if (which < 35) {
            callToRule(seed, i);
        } else if (buildsOften || random.nextInt(6) == 0) {
            int size = random.nextInt(3) == 0 ? number(0, 31) : SIZES[random.nextInt(SIZES.length)];
            int built = x.build(size);
            same(seed, i, "build(" + size + ")", built, y.build(size));
            n = built > 0 ? built : n;
        }
    }

    private void callToRule(int seed, int i) {
        int which = number(0, 3);
        int v = number(0, which == 0 ? 60000 : which == 1 ? 3000 : which == 2 ? 100 : 6);
        if (random.nextInt(4) == 0) {
            boolean is = random.nextInt(3) > 0;
            same(seed, i, "drive(" + is + ")", x.drive(is), y.drive(is));
        } else {
            same(seed, i, "rule(" + which + ", " + v + ")", x.rule(which, v), y.rule(which, v));
        }
    }

    private void callToLook(int seed, int i, int which) {
        int c = number(0, n - 1);
        int p = number(0, Math.max(0, y.told(7) - 1));
        int k = number(0, 6);
        switch (which % 12) {
            case 0: same(seed, i, "arm(" + c + ")", x.arm(c), y.arm(c)); break;
            case 1: same(seed, i, "told(" + k + ")", x.told(k), y.told(k)); break;
            case 2: same(seed, i, "lean(" + c + ")", x.lean(c), y.lean(c)); break;
            case 3: same(seed, i, "greatest()", x.greatest(), y.greatest()); break;
            case 4: same(seed, i, "worst()", x.worst(), y.worst()); break;
            case 5: same(seed, i, "load(" + c + ")", x.load(c), y.load(c)); break;
            case 6: same(seed, i, "cabin(" + c + ", " + k + ")", x.cabin(c, k), y.cabin(c, k)); break;
            case 7: same(seed, i, "inside(" + c + ", " + k + ")", x.inside(c, k), y.inside(c, k)); break;
            case 8: same(seed, i, "why()", x.why(), y.why()); break;
            case 9: same(seed, i, "waits(" + k + ")", x.waits(k), y.waits(k)); break;
            case 10: same(seed, i, "may(" + k + ")", x.may(k), y.may(k)); break;
            default: same(seed, i, "party(" + p + ", " + k + ")", x.party(p, k), y.party(p, k)); break;
        }
    }

    private void callToEmpty(int seed, int i, int which) {
        if (which < 62) {
            int what = number(0, 1);
            same(seed, i, "order(" + what + ")", x.order(what), y.order(what));
        } else if (which < 66) {
            int k = number(0, 5);
            same(seed, i, "ordered(" + k + ")", x.ordered(k), y.ordered(k));
        } else if (which < 69) {
            int order = figures();
            same(seed, i, "cost(" + order + ")", x.cost(order), y.cost(order));
        } else if (which < 72) {
            same(seed, i, "roll()", x.roll(), y.roll());
        } else if (which < 74) {
            same(seed, i, "letOut()", x.letOut(), y.letOut());
        } else {
            same(seed, i, "stranded()", x.stranded(), y.stranded());
        }
    }

    /** Figures of the loaded cabins in some order, sometimes with one twice or one too few. */
    private int figures() {
        int figures = 0;
        int from = random.nextInt(n);
        boolean back = random.nextBoolean();
        for (int i = 0; i < n; i++) {
            int c = (from + (back ? n - i : i)) % n;
            if (y.load(c) > 0 && random.nextInt(20) > 0) {
                figures = figures * 30 + c;
            }
        }
        return random.nextInt(10) == 0 ? number(0, 900) : figures;
    }

    private void callToNote(int seed, int i, int which) {
        int c = number(0, n - 1);
        int side = number(0, 1);
        switch (which) {
            case 78: case 79: case 80: case 81: case 82:
                int sort = number(0, 2);
                int k = sort == 2 ? number(0, 0) : number(0, random.nextBoolean() ? 9 : 36);
                same(seed, i, "note(" + sort + ", " + k + ")", x.note(sort, k), y.note(sort, k));
                break;
            case 83: case 84: case 85:
                int begin = number(0, 6 * n);
                same(seed, i, "up(" + begin + ", " + side + ")", x.up(begin, side), y.up(begin, side));
                break;
            case 86: same(seed, i, "begins()", x.begins(), y.begins()); break;
            case 87:
                if (random.nextInt(6) == 0) {
                    same(seed, i, "tear()", x.tear(), y.tear());
                }
                break;
            case 88: case 89: case 90: callToGuess(seed, i, c); break;
            case 91: case 92: case 93: callToRead(seed, i, c); break;
            case 94:
                if (random.nextInt(3) == 0) {
                    same(seed, i, "forget()", x.forget(), y.forget());
                }
                break;
            case 95: same(seed, i, "breaks()", x.breaks(), y.breaks()); break;
            case 96: same(seed, i, "agree()", x.agree(), y.agree()); break;
            default: same(seed, i, "fit(" + c + ", " + side + ")", x.fit(c, side), y.fit(c, side)); break;
        }
    }

    private void callToGuess(int seed, int i, int c) {
        int load = Math.max(0, y.load(c));
        int low = number(0, load);
        int high = number(load, 900);
        same(seed, i, "guess(" + c + ", " + low + ", " + high + ")", x.guess(c, low, high), y.guess(c, low, high));
    }

    /** Mostly near to what the lean is, for else nothing is left at once. */
    private void callToRead(int seed, int i, int r) {
        int miss = number(0, random.nextBoolean() ? 300 : 20000);
        int off = random.nextInt(5) == 0 ? 40000 : Math.max(0, Math.min(miss, 100000));
        int v = Math.max(-2000001, y.lean(r)) + random.nextInt(2 * off + 1) - off;
        same(seed, i, "read(" + r + ", " + v + ", " + miss + ")", x.read(r, v, miss), y.read(r, v, miss));
    }
}
