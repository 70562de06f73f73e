/** Promises 1 to 15: the wheel. */
public final class WheelTest {
    private static final Check CHECK = new Check("WheelTest");
    private static final int[] SIZES = {6, 10, 12, 20, 30};
    private static final int LOW = Integer.MIN_VALUE;
    private static final int HIGH = Integer.MAX_VALUE;

    public static void main(String[] args) {
        newObject();
        constants();
        build();
        buildForgetsParties();
        buildKeepsRules();
        arm();
        told();
        rule();
        drive();
        leanGreatestWorst();
        load();
        cabin();
        inside();
        stepByBrake();
        stepByDrive();
        leanOfOne();
        warmthFalls();
        whyTheFirst();
        whyAtTheBounds();
        hotSetBelowWarmth();
        stop();
        stopShowsTheTop();
        CHECK.end();
    }

    private static void is(String call, long got, long due) {
        CHECK.is(call, got, due);
    }

    /** One person in the cabin at the door, of so much weight. */
    private static int board(EvenWheel x, int weight) {
        int p = x.come(1, weight, 5, 5, 0);
        is("next() of one person", x.next(), p);
        return p;
    }

    private static void newObject() {
        EvenWheel x = new EvenWheel();
        for (int what = 0; what <= 7; what++) {
            int due = what == 3 ? 3 : 0;
            is("1 told(" + what + ")", x.told(what), due);
        }
        is("1 told(8)", x.told(8), 1);
        for (int c = 0; c < 6; c++) {
            is("1 cabin(c, 0)", x.cabin(c, 0), 0);
            is("1 cabin(c, 3)", x.cabin(c, 3), c);
            is("1 fit(c, 0)", x.fit(c, 0), 0);
            is("1 fit(c, 1)", x.fit(c, 1), 900);
        }
        is("1 cabin(6, 0)", x.cabin(6, 0), -101);
        is("1 waits(0)", x.waits(0), -1);
        is("1 rule(0, 1)", x.rule(0, 1), 60000);
        is("1 rule(1, 100)", x.rule(1, 100), 3000);
        is("1 rule(2, 1)", x.rule(2, 1), 20);
        is("1 rule(3, 1)", x.rule(3, 1), 5);
        is("1 tear()", x.tear(), 0);
        is("1 forget()", x.forget(), 0);
    }

    private static void constants() {
        is("NONE", EvenWheel.NONE, -1);
        is("UNKNOWN", EvenWheel.UNKNOWN, -101);
        is("OUTSIDE", EvenWheel.OUTSIDE, -102);
        is("STATE", EvenWheel.STATE, -103);
        is("FULL", EvenWheel.FULL, -104);
    }

    private static void build() {
        EvenWheel x = new EvenWheel();
        for (int n = -2; n <= 40; n++) {
            boolean is = n == 6 || n == 10 || n == 12 || n == 20 || n == 30;
            is("2 build(" + n + ")", x.build(n), is ? n : -102);
        }
        is("2 build(MIN)", x.build(LOW), -102);
        is("2 build(MAX)", x.build(HIGH), -102);
        is("2 a refused build changes nothing", x.cabin(29, 3), 29);
        board(x, 100);
        x.come(2, 5, 5, 5, 2);
        x.stop(20);
        is("2 told(1) ahead", x.told(1), 21 + 41 + 59 + 74 + 87);
        x.note(0, 3);
        x.guess(1, 3, 4);
        x.read(1, 3, 4);
        is("2 told(7)", x.told(7), 2);
        is("2 build(12)", x.build(12), 12);
        for (int what = 0; what <= 7; what++) {
            is("2 told(" + what + ") anew", x.told(what), what == 3 ? 6 : 0);
        }
        is("2 waits(0)", x.waits(0), -1);
        is("2 party(0, 0)", x.party(0, 0), -101);
        is("2 load(0)", x.load(0), 0);
        is("2 inside(0, 0)", x.inside(0, 0), -1);
        is("2 greatest()", x.greatest(), 0);
        is("2 fit(1, 0)", x.fit(1, 0), 0);
        is("2 fit(1, 1)", x.fit(1, 1), 900);
        is("2 tear()", x.tear(), 0);
        is("2 forget()", x.forget(), 0);
        is("2 numbered from 0", x.come(1, 50, 60, 70, 0), 0);
    }

    private static void buildForgetsParties() {
        EvenWheel x = new EvenWheel();
        x.rule(0, 8700);
        x.come(2, 150, 60, 70, 3);
        x.come(1, 50, 60, 70, 0);
        is("2 next() passes over 0", x.next(), 1);
        x.rule(0, 60000);
        x.step();
        is("2 next()", x.next(), 0);
        x.stop(3);
        int[] ahead = {2, 210, 3, 5, 1, 1};
        for (int what = 0; what <= 5; what++) {
            is("2 party(0, " + what + ") ahead", x.party(0, what), ahead[what]);
        }
        x.build(6);
        x.come(1, 50, 60, 70, 0);
        int[] due = {1, 50, 0, 100, 0, 0};
        for (int what = 0; what <= 5; what++) {
            is("2 party(0, " + what + ") anew", x.party(0, what), due[what]);
        }
    }

    private static void buildKeepsRules() {
        EvenWheel x = new EvenWheel();
        x.rule(0, 7);
        x.rule(1, 107);
        x.rule(2, 8);
        x.rule(3, 9);
        x.drive(false);
        x.build(20);
        is("2 BOUND stays", x.rule(0, 1), 7);
        is("2 HOT stays", x.rule(1, 100), 107);
        is("2 COOLING stays", x.rule(2, 1), 8);
        is("2 PATIENCE stays", x.rule(3, 1), 9);
        is("2 THE DRIVE stays gone", x.told(8), 0);
    }

    private static void arm() {
        int[] sixty = {0, 10, 21, 31, 41, 50, 59, 67, 74, 81, 87, 91, 95, 98, 99, 100,
            99, 98, 95, 91, 87, 81, 74, 67, 59, 50, 41, 31, 21, 10};
        EvenWheel x = new EvenWheel();
        for (int n : SIZES) {
            x.build(n);
            for (int p = 0; p < n; p++) {
                int q = 60 * p / n;
                is("3 arm(" + p + ") of " + n, x.arm(p), q < 30 ? sixty[q] : -sixty[q - 30]);
            }
            is("3 arm(n)", x.arm(n), -1000);
            is("3 arm(-1)", x.arm(-1), -1000);
            is("3 arm(MIN)", x.arm(LOW), -1000);
            is("3 arm(MAX)", x.arm(HIGH), -1000);
        }
        x.build(20);
        x.step();
        is("3 arm(1) is of the place, whatever the turn", x.arm(1), 31);
    }

    private static void told() {
        EvenWheel x = new EvenWheel();
        x.build(10);
        is("4 told(2)", x.told(2), 0);
        is("4 told(3)", x.told(3), 5);
        x.come(3, 5, 5, 5, 0);
        x.come(2, 5, 5, 5, 0);
        x.come(4, 5, 5, 5, 0);
        x.next();
        x.stop(3);
        is("4 told(0)", x.told(0), 3);
        is("4 told(2) at 3", x.told(2), 7);
        is("4 told(3) at 3", x.told(3), 2);
        is("4 told(4)", x.told(4), 3);
        is("4 told(5)", x.told(5), 6);
        is("4 told(6)", x.told(6), 3);
        is("4 told(7)", x.told(7), 3);
        x.next();
        is("4 told(4) of two cabins", x.told(4), 5);
        is("4 told(5) then", x.told(5), 4);
        x.stop(5);
        is("4 told(0) at 8", x.told(0), 8);
        is("4 told(2) at 8", x.told(2), 2);
        is("4 told(3) at 8", x.told(3), 7);
        x.tire(0);
        is("4 told(7) counts who is gone", x.told(7), 3);
        is("4 told(8)", x.told(8), 1);
        x.drive(false);
        is("4 told(8) gone", x.told(8), 0);
        is("4 told(9)", x.told(9), -102);
        is("4 told(-1)", x.told(-1), -102);
        is("4 told(MIN)", x.told(LOW), -102);
        is("4 told(MAX)", x.told(HIGH), -102);
    }

    private static void rule() {
        int[] first = {60000, 3000, 20, 5};
        int[] least = {0, 100, 0, 1};
        int[] most = {1000000, 10000, 500, 20};
        EvenWheel x = new EvenWheel();
        for (int which = 0; which < 4; which++) {
            long before = x.digest();
            is("5 rule below", x.rule(which, least[which] - 1), -102);
            is("5 rule above", x.rule(which, most[which] + 1), -102);
            is("5 rule(MIN)", x.rule(which, LOW), -102);
            is("5 rule(MAX)", x.rule(which, HIGH), -102);
            CHECK.unchanged("5 rule refused", x, before);
            is("5 rule least", x.rule(which, least[which]), first[which]);
            is("5 rule most", x.rule(which, most[which]), least[which]);
            is("5 rule again", x.rule(which, first[which]), most[which]);
        }
        is("5 rule(4, 1)", x.rule(4, 1), -101);
        is("5 rule(-1, 1)", x.rule(-1, 1), -101);
        is("5 rule(MIN, MIN): UNKNOWN ahead of OUTSIDE", x.rule(LOW, LOW), -101);
        is("5 rule(MAX, 1)", x.rule(HIGH, 1), -101);
    }

    private static void drive() {
        EvenWheel x = new EvenWheel();
        is("6 drive(true)", x.drive(true), 1);
        is("6 drive(false)", x.drive(false), 1);
        is("6 drive(false) again", x.drive(false), 0);
        is("6 drive(true) again", x.drive(true), 0);
        is("6 drive(true) at last", x.drive(true), 1);
    }

    private static void leanGreatestWorst() {
        EvenWheel x = new EvenWheel();
        is("8 greatest() of none", x.greatest(), 0);
        is("9 worst() of none", x.worst(), 0);
        x.build(12);
        board(x, 100);
        is("7 lean(0)", x.lean(0), 0);
        is("7 lean(1)", x.lean(1), 5000);
        is("7 lean(3)", x.lean(3), 10000);
        is("7 lean(6)", x.lean(6), 0);
        is("7 lean(7)", x.lean(7), -5000);
        is("7 lean(9)", x.lean(9), -10000);
        is("8 greatest()", x.greatest(), 10000);
        is("9 worst() the least of 3 and 9", x.worst(), 3);
        x.stop(2);
        board(x, 60);
        is("7 lean(2)", x.lean(2), 8700);
        is("7 lean(3) of two", x.lean(3), 13000);
        is("7 lean(10)", x.lean(10), -8700 + 60 * -87);
        is("8 greatest() of two", x.greatest(), 13920);
        is("9 worst() of two", x.worst(), 4);
        is("7 lean(12)", x.lean(12), -1000000001);
        is("7 lean(-1)", x.lean(-1), -1000000001);
        is("7 lean(MIN)", x.lean(LOW), -1000000001);
        is("7 lean(MAX)", x.lean(HIGH), -1000000001);
        x.build(6);
        board(x, 10);
        is("9 worst() is 1, as like as 2, 4, 5", x.worst(), 1);
        is("8 greatest()", x.greatest(), 870);
        x.build(6);
        x.stop(3);
        board(x, 10);
        is("9 worst() is 1 where LEAN is below 0", x.worst(), 1);
        is("7 lean(1)", x.lean(1), -870);
        is("7 lean(4)", x.lean(4), 870);
    }

    private static void load() {
        EvenWheel x = new EvenWheel();
        x.come(5, 60, 70, 50, 0);
        x.come(1, 33, 5, 5, 0);
        is("10 fill()", x.fill(), 2);
        is("10 load(0)", x.load(0), 60 + 70 + 50 + 60 + 70 + 33);
        is("10 load(1)", x.load(1), 0);
        is("10 load(5)", x.load(5), 0);
        is("10 load(6)", x.load(6), -101);
        is("10 load(-1)", x.load(-1), -101);
        is("10 load(MIN)", x.load(LOW), -101);
        is("10 load(MAX)", x.load(HIGH), -101);
        is("10 leave(0)", x.leave(0), 5);
        is("10 load(0) then", x.load(0), 33);
    }

    private static void cabin() {
        EvenWheel x = new EvenWheel();
        x.come(2, 60, 70, 50, 0);
        x.come(3, 60, 70, 50, 2);
        x.fill();
        x.stop(1);
        x.come(1, 60, 70, 50, 1);
        x.next();
        x.stop(1);
        is("11 cabin(0, 0)", x.cabin(0, 0), 5);
        is("11 cabin(0, 1)", x.cabin(0, 1), 2);
        is("11 cabin(0, 2)", x.cabin(0, 2), 0);
        is("11 cabin(0, 3)", x.cabin(0, 3), 2);
        is("11 cabin(5, 0)", x.cabin(5, 0), 1);
        is("11 cabin(5, 1)", x.cabin(5, 1), 1);
        is("11 cabin(5, 2)", x.cabin(5, 2), 1);
        is("11 cabin(5, 3)", x.cabin(5, 3), 1);
        is("11 cabin(4, 0)", x.cabin(4, 0), 0);
        is("11 cabin(4, 1)", x.cabin(4, 1), 0);
        is("11 cabin(4, 2)", x.cabin(4, 2), 0);
        is("11 cabin(4, 3)", x.cabin(4, 3), 0);
        is("11 cabin(0, 4)", x.cabin(0, 4), -102);
        is("11 cabin(0, -1)", x.cabin(0, -1), -102);
        is("11 cabin(0, MAX)", x.cabin(0, HIGH), -102);
        is("11 cabin(6, 4): UNKNOWN ahead of OUTSIDE", x.cabin(6, 4), -101);
        is("11 cabin(-1, 0)", x.cabin(-1, 0), -101);
        is("11 cabin(MIN, MIN)", x.cabin(LOW, LOW), -101);
    }

    private static void inside() {
        EvenWheel x = new EvenWheel();
        for (int i = 0; i < 4; i++) {
            x.come(1, 10 + i, 5, 5, 0);
        }
        x.tire(0);
        x.fill();
        is("12 inside(0, 0)", x.inside(0, 0), 1);
        is("12 inside(0, 1)", x.inside(0, 1), 2);
        is("12 inside(0, 2)", x.inside(0, 2), 3);
        is("12 inside(0, 3)", x.inside(0, 3), -1);
        x.leave(1);
        x.come(1, 44, 5, 5, 0);
        x.next();
        is("12 inside(0, 0) as they boarded", x.inside(0, 0), 2);
        is("12 inside(0, 1) as they boarded", x.inside(0, 1), 3);
        is("12 inside(0, 2) as they boarded", x.inside(0, 2), 4);
        is("12 inside(0, -1)", x.inside(0, -1), -1);
        is("12 inside(0, MAX)", x.inside(0, HIGH), -1);
        is("12 inside(0, MIN)", x.inside(0, LOW), -1);
        is("12 inside(5, 0)", x.inside(5, 0), -1);
        is("12 inside(6, 0)", x.inside(6, 0), -101);
        is("12 inside(-1, 9)", x.inside(-1, 9), -101);
    }

    private static void stepByBrake() {
        EvenWheel x = new EvenWheel();
        board(x, 150);
        x.drive(true);
        is("13 three steps up", x.stop(3), 3);
        is("13 told(1)", x.told(1), 0);
        x.drive(false);
        is("13 step() down needs no drive", x.step(), 4);
        is("13 WARMTH grows by 13050 by 100", x.told(1), 130);
        is("13 told(6)", x.told(6), 4);
        x.rule(1, 259);
        is("14 WARMTH would be 260", x.why(), 2);
        long before = x.digest();
        is("13 step() too hot", x.step(), -103);
        CHECK.unchanged("13 step() refused", x, before);
        x.rule(1, 260);
        is("14 WARMTH would be HOT", x.why(), 0);
        is("13 step()", x.step(), 5);
        is("13 told(1) twice", x.told(1), 260);
        is("13 round", x.step(), 0);
        is("13 LEAN 0 cools", x.told(1), 240);
        is("13 told(6)", x.told(6), 6);
    }

    private static void stepByDrive() {
        EvenWheel x = new EvenWheel();
        x.drive(false);
        is("13 an even wheel needs no drive", x.step(), 1);
        board(x, 5);
        is("14 to be driven", x.why(), 3);
        is("13 step() without the drive", x.step(), -103);
        is("13 told(0)", x.told(0), 1);
        is("13 told(6)", x.told(6), 1);
        x.drive(true);
        is("14 why()", x.why(), 0);
        is("13 step()", x.step(), 2);
    }

    /** 23 times 87 is 40 times 50, and 1. */
    private static void leanOfOne() {
        EvenWheel x = new EvenWheel();
        x.build(12);
        x.rule(2, 3);
        board(x, 23);
        x.stop(5);
        board(x, 40);
        is("7 lean(2)", x.lean(2), 23 * 87 - 40 * 100);
        is("7 lean(4): 23 at 4, 40 at 11", x.lean(4), 1);
        is("7 lean(10)", x.lean(10), -1);
        x.stop(10);
        is("13 told(0)", x.told(0), 3);
        int warm = x.told(1);
        x.drive(false);
        is("14 L of 1 is to be driven", x.why(), 3);
        x.drive(true);
        is("13 step()", x.step(), 4);
        is("13 L of 1 cools", x.told(1), warm - 3);
        x.stop(5);
        warm = x.told(1);
        x.drive(false);
        is("14 L of -1 is held back", x.why(), 0);
        is("13 step()", x.step(), 10);
        is("13 L of -1 warms by 0 and does not cool", x.told(1), warm);
    }

    private static void warmthFalls() {
        EvenWheel x = new EvenWheel();
        board(x, 149);
        x.stop(4);
        is("13 149 times 87 by 100, rounded down", x.told(1), 129);
        x.stop(1);
        is("13 grows", x.told(1), 258);
        x.rule(2, 57);
        x.stop(1);
        is("13 LEAN 0", x.told(1), 201);
        x.stop(1);
        is("13 LEAN above 0", x.told(1), 144);
        x.rule(2, 0);
        x.stop(1);
        is("13 COOLING 0", x.told(1), 144);
        x.rule(2, 500);
        x.stop(1);
        is("13 to 0 at least", x.told(1), 0);
    }

    private static void whyTheFirst() {
        EvenWheel x = new EvenWheel();
        board(x, 100);
        x.rule(0, 8699);
        x.drive(false);
        is("14 1 ahead of 3", x.why(), 1);
        is("13 step()", x.step(), -103);
        x.rule(0, 8700);
        is("14 then 3", x.why(), 3);
        x.drive(true);
        is("14 then none", x.why(), 0);
        x.stop(3);
        x.rule(1, 100);
        x.step();
        x.rule(0, 8699);
        is("14 1 ahead of 2", x.why(), 1);
        x.rule(0, 8700);
        is("14 2", x.why(), 2);
    }

    private static void whyAtTheBounds() {
        EvenWheel x = new EvenWheel();
        x.build(30);
        board(x, 99);
        x.rule(0, 99 * 21);
        is("14 L is BOUND", x.why(), 0);
        x.rule(0, 99 * 21 - 1);
        is("14 L is above BOUND", x.why(), 1);
        x.build(30);
        x.rule(0, 60000);
        board(x, 5);
        x.stop(15);
        x.rule(0, 5 * 21 - 1);
        is("14 L below 0 is above BOUND without its sign", x.why(), 1);
        x.rule(0, 5 * 21);
        is("14 L below 0 at BOUND", x.why(), 0);
        x.step();
        is("13 WORK 1", x.told(1), 1);
        x.build(30);
        x.rule(0, 60000);
        x.rule(2, 0);
        board(x, 150);
        x.come(6, 150, 150, 150, 0);
        is("14 nothing changes by why()", x.why(), 0);
        is("14 told(0)", x.told(0), 0);
    }

    private static void hotSetBelowWarmth() {
        EvenWheel x = new EvenWheel();
        board(x, 150);
        x.stop(5);
        is("13 told(1)", x.told(1), 260);
        x.rule(1, 239);
        is("14 WARMTH would fall to 240, above HOT", x.why(), 2);
        is("13 step()", x.step(), -103);
        x.rule(1, 240);
        is("14 WARMTH would fall to HOT", x.why(), 0);
        x.step();
        x.rule(1, 219);
        x.drive(false);
        is("14 2 ahead of 3", x.why(), 2);
    }

    private static void stop() {
        EvenWheel x = new EvenWheel();
        is("15 stop(0)", x.stop(0), 0);
        is("15 stop(60)", x.stop(60), 60);
        is("15 told(6)", x.told(6), 60);
        is("15 told(0)", x.told(0), 0);
        is("15 stop(61)", x.stop(61), -102);
        is("15 stop(-1)", x.stop(-1), -102);
        is("15 stop(MIN)", x.stop(LOW), -102);
        is("15 stop(MAX)", x.stop(HIGH), -102);
        board(x, 100);
        x.rule(1, 100);
        is("15 stop(10) ends at a step not done", x.stop(10), 4);
        is("15 told(0)", x.told(0), 4);
        is("15 told(6)", x.told(6), 64);
        is("15 why()", x.why(), 2);
        is("15 stop(10) at once", x.stop(10), 0);
    }

    private static void stopShowsTheTop() {
        EvenWheel x = new EvenWheel();
        board(x, 50);
        board(x, 50);
        x.stop(1);
        board(x, 60);
        x.step();
        x.step();
        is("15 step() shows nothing", x.party(0, 4), 0);
        is("15 stop(0) shows the top", x.stop(0), 0);
        is("15 party(0, 4)", x.party(0, 4), 1);
        is("15 party(1, 4) in the same cabin", x.party(1, 4), 1);
        is("15 party(2, 4) in another cabin", x.party(2, 4), 0);
        x.come(1, 70, 70, 70, 2);
        is("15 stop(61)", x.stop(61), -102);
        is("15 through the top is not seen", x.stop(2), 2);
        is("15 party(2, 4)", x.party(2, 4), 0);
        is("15 stop(5)", x.stop(5), 5);
        is("15 party(2, 4) at the top", x.party(2, 4), 1);
        EvenWheel y = new EvenWheel();
        board(y, 50);
        y.stop(2);
        y.rule(0, 0);
        is("15 stop(5) ends with the top behind", y.stop(5), 1);
        is("15 party(0, 4) where a stop ended early", y.party(0, 4), 1);
    }
}
