/** Promises 24 to 29: emptying by an order, rolling, and who is stranded. */
public final class EmptyingTest {
    private static final Check CHECK = new Check("EmptyingTest");
    private static final int LOW = Integer.MIN_VALUE;
    private static final int HIGH = Integer.MAX_VALUE;

    public static void main(String[] args) {
        orderOfNone();
        orderOfOne();
        orderByCost();
        orderBySteps();
        orderByNumbers();
        orderOfMany();
        orderAtMostSix();
        orderThirtyTimes();
        orderThirtyTimesEvenOfNone();
        cost();
        costOfNone();
        costOfSix();
        roll();
        rollRestsAheadOfASign();
        letOut();
        letOutAgain();
        letOutAtOnce();
        rollAtLeanOfOne();
        CHECK.end();
    }

    private static void is(String call, long got, long due) {
        CHECK.is(call, got, due);
    }

    /** A wheel of n cabins with one person of so much weight in each cabin that has one, at turn 0. */
    private static EvenWheel laden(int n, int... weights) {
        EvenWheel x = new EvenWheel();
        x.build(n);
        x.rule(0, 1000000);
        x.rule(1, 10000);
        x.rule(2, 500);
        for (int i = 0; i < n; i++) {
            int c = x.told(2);
            if (c < weights.length && weights[c] > 0) {
                x.come(1, weights[c], 5, 5, 0);
                x.next();
            }
            is("laden: step()", x.step(), (i + 1) % n);
        }
        for (int c = 0; c < weights.length; c++) {
            is("laden: load(" + c + ")", x.load(c), weights[c]);
        }
        return x;
    }

    private static void orderOfNone() {
        EvenWheel x = new EvenWheel();
        is("24 order(0)", x.order(0), -1);
        is("24 order(1)", x.order(1), -1);
        is("25 ordered(0)", x.ordered(0), -1);
        is("24 order(2)", x.order(2), -102);
        is("24 order(-1)", x.order(-1), -102);
        is("24 order(MIN)", x.order(LOW), -102);
        is("24 order(MAX)", x.order(HIGH), -102);
    }

    private static void orderOfOne() {
        EvenWheel x = laden(6, 100);
        is("24 order(0) at the door", x.order(0), 0);
        is("24 order(1) at the door", x.order(1), 0);
        is("25 ordered(0)", x.ordered(0), 0);
        is("25 ordered(1)", x.ordered(1), -1);
        is("25 ordered(-1)", x.ordered(-1), -1);
        is("25 ordered(MAX)", x.ordered(HIGH), -1);
        is("25 ordered(MIN)", x.ordered(LOW), -1);
        x.stop(1);
        is("24 the turn where it is does not count", x.order(0), 8700);
        is("24 order(1)", x.order(1), 5);
        x.stop(4);
        is("24 one step left", x.order(0), 0);
        is("24 one step left", x.order(1), 1);
        x.rule(0, 0);
        x.rule(1, 100);
        x.drive(false);
        is("24 BOUND and so on are not looked at", x.order(1), 1);
        is("24 nothing is done", x.load(0), 100);
        is("24 nothing is done", x.told(0), 5);
    }

    private static void orderByCost() {
        EvenWheel x = laden(6, 0, 100, 0, 0, 90, 0);
        is("24 the longer way leans less", x.order(0), 7830);
        is("24 order(1)", x.order(1), 8);
        is("25 ordered(0)", x.ordered(0), 1);
        is("25 ordered(1)", x.ordered(1), 4);
        is("26 the shorter way", x.cost(4 * 30 + 1), 8700);
        EvenWheel y = laden(6, 50, 0, 0, 60, 0, 0);
        is("24 one at the door may stay in", y.order(0), 4350);
        is("24 order(1)", y.order(1), 6);
        is("25 ordered(0)", y.ordered(0), 3);
        is("26 emptied first", y.cost(3), 5220);
    }

    private static void orderBySteps() {
        EvenWheel x = laden(6, 0, 40, 0, 0, 40, 0);
        is("24 order(0)", x.order(0), 3480);
        is("26 as like", x.cost(34), 3480);
        is("26 as like", x.cost(121), 3480);
        is("24 order(1): 5, not 8", x.order(1), 5);
        is("25 ordered(0)", x.ordered(0), 4);
        is("25 ordered(1)", x.ordered(1), 1);
    }

    private static void orderByNumbers() {
        EvenWheel x = laden(6, 40, 60, 0, 0, 50, 0);
        is("26 cost(0, 1, 4)", x.cost(30 + 4), 4350);
        is("26 cost(1, 0, 4): as like, and 8 steps too", x.cost(900 + 4), 4350);
        is("24 order(0)", x.order(0), 4350);
        is("24 order(1)", x.order(1), 8);
        is("25 ordered(0): the least first one", x.ordered(0), 0);
        is("25 ordered(1)", x.ordered(1), 1);
        is("25 ordered(2)", x.ordered(2), 4);
        EvenWheel y = laden(6, 50, 60, 0, 0, 10, 10);
        is("26 cost(0, 1, 5, 4)", y.cost((30 + 5) * 30 + 4), 4350);
        is("26 cost(0, 5, 1, 4): as like, and 8 steps too", y.cost((150 + 1) * 30 + 4), 4350);
        is("24 order(0)", y.order(0), 4350);
        is("24 order(1)", y.order(1), 8);
        is("25 ordered(0)", y.ordered(0), 0);
        is("25 ordered(1): the least second one", y.ordered(1), 1);
        is("25 ordered(2)", y.ordered(2), 5);
        is("25 ordered(3)", y.ordered(3), 4);
        is("25 ordered(4)", y.ordered(4), -1);
    }

    /** Best orders that were found by walking all of them with PlainWheel. */
    private static void orderOfMany() {
        ordersAre(laden(6, 10, 60, 60, 50, 10, 40), 6090, 8, 0, 3, 2, 1, 5, 4);
        ordersAre(laden(6, 0, 30, 60, 10, 20, 30), 3480, 11, 2, 5, 4, 3, 1);
        ordersAre(laden(6, 10, 30, 20, 20, 0, 60), 3480, 10, 0, 1, 5, 3, 2);
        ordersAre(laden(6, 50, 50, 30, 0, 60, 20), 4350, 11, 0, 2, 5, 4, 1);
        ordersAre(laden(6, 60, 0, 30, 20, 10, 0), 3480, 9, 2, 0, 4, 3);
    }

    private static void ordersAre(EvenWheel x, int cost, int steps, int... cabins) {
        is("24 order(0)", x.order(0), cost);
        is("24 order(1)", x.order(1), steps);
        int order = 0;
        for (int i = 0; i < cabins.length; i++) {
            is("25 ordered(" + i + ")", x.ordered(i), cabins[i]);
            order = order * 30 + cabins[i];
        }
        is("25 ordered() behind the last", x.ordered(cabins.length), -1);
        is("26 cost(" + order + ")", x.cost(order), cost);
    }

    private static void orderAtMostSix() {
        EvenWheel x = laden(10, 0, 10, 20, 30, 40, 50, 60);
        CHECK.that("24 six are ordered", x.order(0) >= 0);
        CHECK.that("25 the sixth", x.ordered(5) > 0);
        is("25 the seventh", x.ordered(6), -1);
        x.come(1, 5, 5, 5, 0);
        x.next();
        is("24 seven have a LOAD", x.order(0), -103);
        is("24 OUTSIDE ahead of STATE", x.order(2), -102);
        is("25 seven have a LOAD", x.ordered(0), -103);
        is("25 STATE whatever i", x.ordered(-1), -103);
        is("26 seven have a LOAD", x.cost(0), -103);
        is("26 STATE ahead of OUTSIDE", x.cost(-1), -103);
        x.leave(6);
        CHECK.that("24 six again", x.order(0) >= 0);
    }

    private static void orderThirtyTimes() {
        EvenWheel x = laden(6, 0, 0, 0, 10);
        for (int i = 0; i < 10; i++) {
            is("24 order(1)", x.order(1), 3);
            is("25 ordered(0)", x.ordered(0), 3);
            is("25 ordered(7)", x.ordered(7), -1);
            is("24 a refusal is none of the 30", x.order(2), -102);
            is("26 cost() is none of the 30", x.cost(3), 870);
        }
        is("24 30 times done", x.order(0), -103);
        is("25 30 times done", x.ordered(0), -103);
        is("24 OUTSIDE ahead of STATE", x.order(5), -102);
        is("26 cost() goes on", x.cost(3), 870);
        x.build(6);
        is("24 build() gives no more", x.order(0), -103);
    }

    private static void orderThirtyTimesEvenOfNone() {
        EvenWheel x = new EvenWheel();
        for (int i = 0; i < 30; i++) {
            is("24 order(0) of none", x.order(0), -1);
        }
        is("24 30 times done", x.order(0), -103);
        is("25 30 times done", x.ordered(0), -103);
    }

    private static void cost() {
        EvenWheel x = laden(6, 0, 100, 0, 0, 90, 0);
        is("26 cost(4, 1)", x.cost(4 * 30 + 1), 8700);
        is("26 cost(1, 4)", x.cost(30 + 4), 7830);
        is("26 cost(1, 1)", x.cost(31), -102);
        is("26 cost(4, 4)", x.cost(124), -102);
        is("26 cost(4)", x.cost(4), -102);
        is("26 cost(1)", x.cost(1), -102);
        is("26 cost(0, 1, 4) is told as 1, 4", x.cost(34), 7830);
        is("26 cost(1, 1, 4)", x.cost(900 + 34), -102);
        is("26 cost(4, 0)", x.cost(120), -102);
        is("26 cost(0, 1)", x.cost(1), -102);
        is("26 cost(-1)", x.cost(-1), -102);
        is("26 cost(-34)", x.cost(-34), -102);
        is("26 cost(MIN)", x.cost(LOW), -102);
        is("26 cost(MAX)", x.cost(HIGH), -102);
        is("26 nothing is done", x.load(1), 100);
        EvenWheel y = laden(6, 20, 30);
        is("26 cost(0, 1)", y.cost(1), 30 * 87);
        is("26 cost(1, 0)", y.cost(30), 50 * 87);
    }

    private static void costOfNone() {
        EvenWheel x = new EvenWheel();
        is("26 none named", x.cost(0), 0);
        is("26 one named", x.cost(1), -102);
        is("26 cost(-1)", x.cost(-1), -102);
        is("26 cost(MIN)", x.cost(LOW), -102);
    }

    private static void costOfSix() {
        EvenWheel x = new EvenWheel();
        x.build(30);
        x.rule(0, 1000000);
        for (int i = 0; i < 6; i++) {
            x.come(1, 10, 5, 5, 0);
            x.next();
            x.step();
        }
        x.stop(24);
        int[] order = {29, 28, 27, 26, 0, 25};
        int named = 0;
        for (int c : order) {
            named = named * 30 + c;
        }
        CHECK.that("26 nearly the greatest that has six figures", named > 700000000);
        is("26 cost of six", x.cost(named), costByHand(order));
        is("26 above all orders", x.cost(729000000), -102);
    }

    /** COST on 30 cabins of which each of the order has a load of 10, at turn 0. */
    private static int costByHand(int[] order) {
        int[] arms = new int[30];
        EvenWheel x = new EvenWheel();
        x.build(30);
        for (int p = 0; p < 30; p++) {
            arms[p] = x.arm(p);
        }
        int turn = 0;
        int cost = 0;
        for (int i = 0; i < order.length; i++) {
            while ((order[i] + turn) % 30 != 0) {
                turn = (turn + 1) % 30;
                int lean = 0;
                for (int k = i; k < order.length; k++) {
                    lean += 10 * arms[(order[k] + turn) % 30];
                }
                cost = Math.max(cost, Math.abs(lean));
            }
        }
        return cost;
    }

    private static void roll() {
        EvenWheel x = laden(12, 100);
        is("27 LEAN 0: it rests", x.roll(), 0);
        x.stop(4);
        long steps = x.told(6);
        long warmth = x.told(1);
        is("27 back, down to the door", x.roll(), -4);
        is("27 told(0)", x.told(0), 0);
        is("27 told(6): no STEPS", x.told(6), steps);
        is("27 told(1): no WARMTH", x.told(1), warmth);
        x.stop(8);
        x.drive(false);
        x.rule(0, 0);
        is("27 onward, down to the door", x.roll(), 4);
        is("27 told(0)", x.told(0), 0);
        x.rule(0, 1000000);
        x.drive(true);
        x.stop(6);
        is("27 at the top it rests", x.roll(), 0);
        is("27 told(0)", x.told(0), 6);
        x.step();
        is("27 onward round", x.roll(), 5);
    }

    private static void rollRestsAheadOfASign() {
        // LEAN at turns 0 to 5: -35, 38, 73, 35, -38, -73 times 87 by 1 and so on
        EvenWheel x = laden(6, 0, 70, 0, 0, 0, 108);
        is("27 lean(0)", x.lean(0), (70 - 108) * 87);
        is("27 lean(1)", x.lean(1), 70 * 87);
        is("27 it rests ahead of the other sign", x.roll(), 0);
        x.step();
        is("27 back: LEAN there is below 0", x.roll(), 0);
        x.stop(1);
        is("27 back as far as it is not below 0", x.roll(), -1);
        is("27 told(0)", x.told(0), 1);
        x.stop(3);
        is("27 lean(4)", x.lean(4), -70 * 87);
        is("27 onward as far as it is not above 0", x.roll(), 2);
        is("27 told(0)", x.told(0), 0);
    }

    private static void letOut() {
        EvenWheel x = laden(6, 0, 70, 0, 0, 0, 108);
        is("28 nobody is at the door", x.letOut(), 0);
        is("29 both", x.stranded(), 2);
        is("28 told(4)", x.told(4), 2);
        x.stop(2);
        is("29 from 2", x.stranded(), 0);
        is("29 nothing is done", x.told(0), 2);
        is("29 nothing is done", x.told(4), 2);
        is("28 from 2: to 1, where 5 is at the door, then 1", x.letOut(), 2);
        is("28 told(0)", x.told(0), 5);
        is("28 party(0, 3)", x.party(0, 3), 101);
        is("28 party(1, 3)", x.party(1, 3), 101);
        is("28 load(5)", x.load(5), 0);
        is("28 inside(5, 0)", x.inside(5, 0), -1);
        is("28 greatest()", x.greatest(), 0);
        is("29 none", x.stranded(), 0);
        is("28 none", x.letOut(), 0);
    }

    private static void letOutAgain() {
        EvenWheel x = new EvenWheel();
        x.build(12);
        x.come(3, 50, 60, 70, 0);
        x.come(2, 50, 60, 70, 0);
        x.come(1, 30, 50, 50, 0);
        x.come(4, 10, 20, 30, 0);
        x.fill();
        is("28 who are in the cabin at the door", x.cabin(0, 0), 6);
        x.stop(6);
        x.next();
        is("28 cabin(6, 0)", x.cabin(6, 0), 4);
        is("29 who is at the top", x.stranded(), 6);
        is("28 who is at the door", x.letOut(), 4);
        is("28 it rests at once", x.told(0), 6);
        is("28 who is at the top stays", x.party(0, 3), 0);
        is("28 told(4)", x.told(4), 6);
        x.step();
        is("29 it would roll", x.stranded(), 0);
        is("28 all three parties", x.letOut(), 6);
        is("28 told(0)", x.told(0), 0);
        is("28 party(1, 3)", x.party(1, 3), 101);
    }

    private static void letOutAtOnce() {
        EvenWheel x = laden(12, 0, 0, 30);
        x.stop(5);
        is("28 letOut()", x.letOut(), 1);
        is("28 told(0)", x.told(0), 10);
        is("28 told(4)", x.told(4), 0);
        is("29 stranded()", x.stranded(), 0);
    }

    /** 23 times 87 is 40 times 50, and 1: LEAN at turn 4 is 1, at turn 10 it is -1. */
    private static void rollAtLeanOfOne() {
        EvenWheel x = laden(12, 23, 0, 0, 0, 0, 0, 0, 40);
        is("27 lean(4)", x.lean(4), 1);
        is("27 lean(3)", x.lean(3), 23 * 100 - 40 * 87);
        is("27 lean(5)", x.lean(5), 23 * 50);
        x.stop(4);
        is("27 it rests ahead of the other sign", x.roll(), 0);
        x.stop(1);
        is("27 back to 1", x.roll(), -1);
        x.stop(6);
        is("27 told(0)", x.told(0), 10);
        is("27 onward from -1, to 3: at 4 it is 1", x.roll(), 5);
        is("27 told(0)", x.told(0), 3);
        is("27 it rests", x.roll(), 0);
        x.stop(6);
        is("27 back from 9 to 4", x.roll(), -5);
        is("27 told(0)", x.told(0), 4);
    }
}
