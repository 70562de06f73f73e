/** Promises 34 to 39: guesses of the loads, and readings of leans. */
public final class GuessesTest {
    private static final Check CHECK = new Check("GuessesTest");
    private static final int LOW = Integer.MIN_VALUE;
    private static final int HIGH = Integer.MAX_VALUE;

    public static void main(String[] args) {
        guess();
        read();
        readFull();
        forget();
        fitRefused();
        fitByOneReading();
        fitByWholeLoads();
        fitWithArmBelowZero();
        fitGoesOnceThrough();
        fitReadingByReading();
        fitWithoutAnArm();
        breaks();
        agree();
        CHECK.end();
    }

    private static void is(String call, long got, long due) {
        CHECK.is(call, got, due);
    }

    private static void fits(EvenWheel x, int c, int low, int high) {
        is("37 fit(" + c + ", 0)", x.fit(c, 0), low);
        is("37 fit(" + c + ", 1)", x.fit(c, 1), high);
    }

    /** Six cabins of which all but a and b are known to be empty. */
    private static EvenWheel twoOf(int a, int b) {
        EvenWheel x = new EvenWheel();
        for (int c = 0; c < 6; c++) {
            if (c != a && c != b) {
                x.guess(c, 0, 0);
            }
        }
        return x;
    }

    private static void guess() {
        EvenWheel x = new EvenWheel();
        long before = x.digest();
        is("34 guess(6, ..)", x.guess(6, 0, 900), -101);
        is("34 guess(-1, ..)", x.guess(-1, 0, 900), -101);
        is("34 guess(MIN, ..)", x.guess(LOW, 0, 900), -101);
        is("34 UNKNOWN ahead of OUTSIDE", x.guess(HIGH, 5, 4), -101);
        is("34 low -1", x.guess(0, -1, 900), -102);
        is("34 high 901", x.guess(0, 0, 901), -102);
        is("34 low above high", x.guess(0, 5, 4), -102);
        is("34 low MIN", x.guess(0, LOW, 4), -102);
        is("34 high MAX", x.guess(0, 0, HIGH), -102);
        is("34 both above", x.guess(0, 901, 902), -102);
        CHECK.unchanged("34 guess refused", x, before);
        is("34 guess(0, 0, 900)", x.guess(0, 0, 900), 1);
        is("34 guess(5, 7, 7)", x.guess(5, 7, 7), 1);
        fits(x, 5, 7, 7);
        is("34 guess(5, 900, 900)", x.guess(5, 900, 900), 1);
        fits(x, 5, 900, 900);
        fits(x, 4, 0, 900);
        is("34 wider again", x.guess(5, 0, 0), 1);
        fits(x, 5, 0, 0);
    }

    private static void read() {
        EvenWheel x = new EvenWheel();
        long before = x.digest();
        is("35 read(6, ..)", x.read(6, 0, 0), -101);
        is("35 read(-1, ..)", x.read(-1, 0, 0), -101);
        is("35 UNKNOWN ahead of OUTSIDE", x.read(LOW, HIGH, -1), -101);
        is("35 v above", x.read(0, 2000001, 0), -102);
        is("35 v below", x.read(0, -2000001, 0), -102);
        is("35 v MIN", x.read(0, LOW, 0), -102);
        is("35 v MAX", x.read(0, HIGH, 0), -102);
        is("35 miss -1", x.read(0, 0, -1), -102);
        is("35 miss 100001", x.read(0, 0, 100001), -102);
        is("35 miss MIN", x.read(0, 0, LOW), -102);
        is("35 miss MAX", x.read(0, 0, HIGH), -102);
        CHECK.unchanged("35 read refused", x, before);
        is("35 v most", x.read(0, 2000000, 0), 1);
        is("35 v least", x.read(5, -2000000, 0), 2);
        is("35 miss most", x.read(5, 0, 100000), 3);
        is("35 miss least", x.read(5, 0, 0), 4);
    }

    private static void readFull() {
        EvenWheel x = new EvenWheel();
        for (int i = 1; i <= 12; i++) {
            is("35 read " + i, x.read(i % 6, 0, 0), i);
        }
        is("35 the 13th", x.read(0, 0, 0), -104);
        is("35 OUTSIDE ahead of FULL", x.read(0, 0, -1), -102);
        is("35 UNKNOWN ahead of FULL", x.read(6, 0, 0), -101);
        is("36 forget()", x.forget(), 12);
        is("35 anew", x.read(0, 0, 0), 1);
    }

    private static void forget() {
        EvenWheel x = new EvenWheel();
        is("36 forget() of none", x.forget(), 0);
        x.guess(1, 10, 20);
        x.read(1, 2000000, 0);
        is("38 breaks()", x.breaks(), 0);
        is("36 forget()", x.forget(), 1);
        is("36 forget() again", x.forget(), 0);
        is("38 breaks()", x.breaks(), -1);
        fits(x, 1, 10, 20);
    }

    private static void fitRefused() {
        EvenWheel x = new EvenWheel();
        is("37 fit(6, 0)", x.fit(6, 0), -101);
        is("37 fit(-1, 0)", x.fit(-1, 0), -101);
        is("37 UNKNOWN ahead of OUTSIDE", x.fit(HIGH, 2), -101);
        is("37 fit(0, 2)", x.fit(0, 2), -102);
        is("37 fit(0, -1)", x.fit(0, -1), -102);
        is("37 fit(0, MIN)", x.fit(0, LOW), -102);
        x.read(0, 2000000, 0);
        is("37 nothing is left", x.fit(0, 0), -1);
        is("37 nothing is left", x.fit(0, 1), -1);
        is("37 UNKNOWN ahead of NONE", x.fit(6, 0), -101);
        is("37 OUTSIDE ahead of NONE", x.fit(0, 2), -102);
    }

    private static void fitByOneReading() {
        // at turn 0 cabin 1 has arm 87, cabin 2 too, 4 and 5 have -87
        EvenWheel x = twoOf(1, 2);
        x.guess(2, 100, 150);
        x.read(0, 87 * 400, 0);
        fits(x, 1, 250, 300);
        fits(x, 2, 100, 150);
        fits(x, 0, 0, 0);
        x.guess(1, 0, 260);
        fits(x, 1, 250, 260);
        fits(x, 2, 140, 150);
        EvenWheel y = twoOf(0, 0);
        // at turn 1 cabin 0 has arm 87
        y.read(1, 87 * 44, 87 * 3);
        fits(y, 0, 41, 47);
        x.guess(1, 0, 249);
        is("37 none of cabin 1", x.fit(2, 0), -1);
        is("38 breaks()", x.breaks(), 0);
    }

    private static void fitByWholeLoads() {
        EvenWheel x = twoOf(1, 1);
        x.read(0, 8699, 86);
        fits(x, 1, 99, 100);
        x.forget();
        x.read(0, 8701, 85);
        fits(x, 1, 100, 100);
        x.forget();
        x.read(0, 8743, 42);
        is("37 no whole load", x.fit(1, 0), -1);
        x.forget();
        x.read(0, 8743, 43);
        fits(x, 1, 100, 100);
        x.read(0, 8788, 1);
        is("38 breaks()", x.breaks(), 1);
        x.forget();
        // 87 a - 87 b is never 1 in whole loads, but the other's need not be whole
        EvenWheel y = twoOf(1, 4);
        y.read(0, 1, 0);
        fits(y, 1, 1, 900);
        fits(y, 4, 1, 899);
    }

    private static void fitWithArmBelowZero() {
        EvenWheel x = twoOf(4, 4);
        x.read(0, -8700, 87);
        fits(x, 4, 99, 101);
        x.forget();
        x.read(0, -8700, 86);
        fits(x, 4, 100, 100);
        x.forget();
        x.read(0, -8743, 50);
        fits(x, 4, 100, 101);
        x.forget();
        x.read(0, 8700, 8699);
        is("37 a lean above 0 has none", x.fit(4, 0), -1);
        x.forget();
        x.read(0, 8700, 8700);
        fits(x, 4, 0, 0);
    }

    private static void fitGoesOnceThrough() {
        EvenWheel x = twoOf(1, 2);
        x.guess(1, 0, 10);
        x.guess(2, 0, 10);
        // 1 by what 2 was, then 2 by what 1 is now
        x.read(0, 87 * 18 + 40, 0);
        fits(x, 1, 9, 10);
        fits(x, 2, 9, 9);
        x.forget();
        x.read(0, 87 * 2 + 40, 0);
        fits(x, 1, 0, 2);
        fits(x, 2, 1, 2);
    }

    private static void fitReadingByReading() {
        EvenWheel x = twoOf(1, 2);
        x.read(0, 87 * 100, 0);
        fits(x, 1, 0, 100);
        fits(x, 2, 0, 100);
        // at turn 1 cabin 1 has arm 87, cabin 2 none
        x.read(1, 87 * 30, 87 * 5);
        fits(x, 1, 25, 35);
        fits(x, 2, 0, 100);
        x.read(0, 87 * 100, 0);
        fits(x, 2, 65, 75);
        is("38 breaks()", x.breaks(), -1);
        x.guess(1, 20, 24);
        is("38 breaks()", x.breaks(), 1);
        x.guess(1, 50, 60);
        is("38 breaks()", x.breaks(), 1);
        x.guess(1, 101, 102);
        is("38 breaks()", x.breaks(), 0);
    }

    private static void fitWithoutAnArm() {
        EvenWheel x = twoOf(0, 3);
        x.read(0, 0, 0);
        fits(x, 0, 0, 900);
        fits(x, 3, 0, 900);
        x.read(0, 1, 0);
        is("37 cabins at the door and the top lean nothing", x.fit(0, 0), -1);
        x.forget();
        x.read(0, 1, 1);
        fits(x, 0, 0, 900);
        x.forget();
        x.read(0, -2, 1);
        is("38 breaks()", x.breaks(), 0);
    }

    private static void breaks() {
        EvenWheel x = new EvenWheel();
        is("38 by none", x.breaks(), -1);
        x.read(0, 87 * 1800, 0);
        is("38 as great as may be", x.breaks(), -1);
        fits(x, 1, 900, 900);
        fits(x, 2, 900, 900);
        fits(x, 4, 0, 0);
        fits(x, 5, 0, 0);
        fits(x, 3, 0, 900);
        x.read(3, -87 * 1800, 0);
        is("38 the same again", x.breaks(), -1);
        x.read(0, 87 * 1800 - 1, 0);
        is("38 the third", x.breaks(), 2);
        x.read(0, 0, 0);
        is("38 the first at which", x.breaks(), 2);
        is("39 agree()", x.agree(), -1);
    }

    private static void agree() {
        EvenWheel x = new EvenWheel();
        is("39 by none", x.agree(), 6);
        x.come(1, 100, 5, 5, 0);
        x.next();
        is("39 agree()", x.agree(), 6);
        x.guess(0, 101, 900);
        is("39 below low", x.agree(), 5);
        x.guess(0, 0, 99);
        is("39 above high", x.agree(), 5);
        x.guess(0, 100, 100);
        is("39 at both", x.agree(), 6);
        x.guess(1, 1, 2);
        is("39 another", x.agree(), 5);
        // at turn 1 cabin 0 has arm 87
        x.read(1, 87 * 100, 0);
        is("39 as it is", x.agree(), 5);
        x.guess(0, 0, 900);
        x.read(1, 1000000, 0);
        is("39 nothing is left", x.agree(), -1);
    }
}
