/** Edges of 'Terms' 3, EMPTYING and ROLLING, and of promises 24 to 29. */
public final class EmptyingEdgesTest {
    private static final int LOW = Integer.MIN_VALUE;
    private static final int HIGH = Integer.MAX_VALUE;
    private static final int[] SIX = {0, 10, 20, 30, 40, 50, 60};
    /** Cabins of a wheel, the turn, and an order of three of them. */
    private static final int[][] EMPTIED = {{6, 0, 0, 2, 5}, {6, 3, 5, 2, 0}, {10, 9, 1, 4, 8}, {12, 7, 8, 1, 4}, {20, 1, 0, 19, 10},
        {20, 19, 1, 2, 3}, {30, 29, 29, 0, 15}};

    public static void main(String[] args) {
        Edges edges = new Edges("EmptyingEdgesTest");
        sixAtMost(edges);
        broughtToTheDoor(edges);
        costOfTurns(edges);
        bestOrder(edges);
        bestOfLikeOnes(edges);
        bestOfAll(edges);
        rolling(edges);
        rollingRests(edges);
        lettingOut(edges);
        order(edges);
        thirtyTimes(edges);
        ordered(edges);
        cost(edges);
        costRefused(edges);
        roll(edges);
        rollIsNoStop(edges);
        letOut(edges);
        stranded(edges);
        reallyEmptied(edges);
        anotherOrder(edges);
        rollsAsTheLeansSay(edges);
        edges.end(24, 29);
    }

    // ---- Terms

    private static void sixAtMost(Edges edges) {
        edges.terms("EMPTYING by an ORDER of all CABINS with a LOAD (6 at most)", "six: the order names each once", w -> {
            w.lade(10, SIX);
            int named = 0;
            int order = 0;
            for (int i = 0; i < 6; i++) {
                int c = (int) w.ask("ordered", i);
                named |= 1 << Math.max(0, c);
                order = order * 30 + c;
            }
            w.that("each of 1 to 6 once, not " + Integer.toBinaryString(named), named == 0b1111110);
            w.is(-1, "ordered", 6);
            w.is(w.ask("order", 0), "cost", order);
        });
        edges.terms("EMPTYING by an ORDER of all CABINS with a LOAD (6 at most)", "seven, and then six again", w -> {
            w.lade(10, SIX);
            w.seat(1, 5);
            w.refuses(-103, "order", 0);
            w.refuses(-103, "ordered", 0);
            w.refuses(-103, "cost", 0);
            w.is(1, "leave", 6);
            w.that("order(0) of six", w.ask("order", 0) > 0);
        });
        edges.terms("EMPTYING by an ORDER of all CABINS with a LOAD (6 at most)", "all ten", w -> {
            w.lade(10, 10, 10, 10, 10, 10, 10, 10, 10, 10, 10);
            w.refuses(-103, "order", 0);
            w.refuses(-103, "order", 1);
            w.refuses(-103, "ordered", 9);
            w.refuses(-103, "cost", 1);
        });
    }

    private static void broughtToTheDoor(Edges edges) {
        edges.terms("each is brought to THE DOOR by STEPS onward (none, if it is there)", "at it, one STEP ahead, one behind",
            w -> {
                w.ask("build", 12);
                w.seat(1, 10);
                w.is(0, "order", 1);
                w.is(0, "order", 0);
                w.steps(1);
                w.is(11, "order", 1);
                w.steps(10);
                w.is(1, "order", 1);
                w.steps(1);
                w.is(0, "order", 1);
            });
        edges.terms("each is brought to THE DOOR by STEPS onward (none, if it is there)", "one at it may have to stay in", w -> {
            // 3 first keeps 0 in, that leans against it
            w.lade(6, 50, 0, 0, 60);
            w.is(4350, "order", 0);
            w.is(6, "order", 1);
            w.is(3, "ordered", 0);
            w.is(0, "ordered", 1);
            w.is(5220, "cost", 3);
        });
        edges.terms("and emptied whole", "six parties of a cabin are one cabin", w -> {
            for (int i = 0; i < 6; i++) {
                w.seat(1, 10);
            }
            w.steps(5);
            w.is(0, "order", 0);
            w.is(1, "order", 1);
            w.is(0, "ordered", 0);
            w.is(-1, "ordered", 1);
        });
    }

    private static void costOfTurns(Edges edges) {
        edges.terms("COST: the greatest LEAN without its sign at any TURN that it comes to (0 without)",
            "none that it comes to: 0", w -> {
                w.seat(1, 150);
                w.is(0, "order", 0);
                w.is(0, "cost", 0);
            });
        edges.terms("COST: the greatest LEAN without its sign at any TURN that it comes to (0 without)",
            "not the TURN where it is at first", w -> {
                w.ask("build", 12);
                w.seat(1, 10);
                w.steps(9);
                w.is(-1000, "lean", 9);
                w.is(870, "order", 0);
                w.is(870, "cost", 0);
                w.steps(2);
                w.is(0, "order", 0);
            });
        edges.terms("COST: the greatest LEAN without its sign at any TURN that it comes to (0 without)",
            "one LEAN below 0 alone", w -> {
                w.ask("build", 6);
                w.seat(1, 10);
                w.steps(4);
                w.is(-870, "lean", 5);
                w.is(870, "order", 0);
            });
        edges.terms("COST: the greatest LEAN without its sign at any TURN that it comes to (0 without)",
            "the TURN at which the first is at the door, the others still up", w -> {
                // 5 comes to the door at turn 1: there 2 and 4 lean by 870 against 87 times 30
                w.lade(6, 0, 0, 0, 0, 30, 10);
                w.is(-30 * 87, "lean", 1);
                w.is(30 * 87, "cost", 5 * 30 + 4);
            });
    }

    private static void bestOrder(Edges edges) {
        edges.terms("THE BEST ORDER: of least COST", "the longer way, if it leans one less", w -> {
            w.lade(6, 0, 100, 0, 0, 99);
            w.is(8700, "cost", 4 * 30 + 1);
            w.is(99 * 87, "cost", 30 + 4);
            w.is(99 * 87, "order", 0);
            w.is(8, "order", 1);
            w.is(1, "ordered", 0);
            w.is(4, "ordered", 1);
        });
        edges.terms("of like ones of fewest STEPS together", "the shorter way, if it leans as much", w -> {
            w.lade(6, 0, 100, 0, 0, 100);
            w.is(8700, "cost", 4 * 30 + 1);
            w.is(8700, "cost", 30 + 4);
            w.is(8700, "order", 0);
            w.is(5, "order", 1);
            w.is(4, "ordered", 0);
            w.is(1, "ordered", 1);
        });
        edges.terms("(BOUND, WARMTH, THE DRIVE are not looked at.)", "BOUND 0, HOT below WARMTH, no drive", w -> {
            w.lade(6, 0, 100, 0, 0, 99);
            w.ask("rule", 2, 0);
            w.steps(6);
            w.ask("rule", 0, 0);
            w.ask("rule", 1, 100);
            w.ask("drive", 0);
            w.is(99 * 87, "order", 0);
            w.is(8, "order", 1);
            w.is(8700, "cost", 4 * 30 + 1);
        });
    }

    private static void bestOfLikeOnes(Edges edges) {
        edges.terms("of like ones the one whose first CABIN has the least number", "0 first or 1 first: as much, and as far", w -> {
            w.lade(6, 40, 60, 0, 0, 50);
            w.is(4350, "cost", 30 + 4);
            w.is(4350, "cost", 900 + 4);
            w.is(4350, "order", 0);
            w.is(8, "order", 1);
            w.is(0, "ordered", 0);
            w.is(1, "ordered", 1);
            w.is(4, "ordered", 2);
        });
        edges.terms("then the second, and so on", "0 first in both, and then 1 or 5", w -> {
            w.lade(6, 50, 60, 0, 0, 10, 10);
            w.is(4350, "cost", (30 + 5) * 30 + 4);
            w.is(4350, "cost", (150 + 1) * 30 + 4);
            w.is(4350, "order", 0);
            w.is(8, "order", 1);
            w.is(0, "ordered", 0);
            w.is(1, "ordered", 1);
            w.is(5, "ordered", 2);
            w.is(4, "ordered", 3);
        });
    }

    /** Loads of six cabins, and the best of their 720 orders, found by a program that walked all of them. */
    private static void bestOfAll(Edges edges) {
        ordersAre(edges, "the one with the least numbers of those that were found", new int[] {10, 40, 20, 10, 10, 30},
            1740, 16, 0, 1, 3, 5, 4, 2);
        ordersAre(edges, "the last of all 720", new int[] {10, 10, 10, 20, 20, 10}, 1740, 6, 5, 4, 3, 2, 1, 0);
        ordersAre(edges, "nearly the last, 12 steps", new int[] {40, 30, 10, 70, 20, 60}, 3480, 12, 5, 4, 1, 3, 2, 0);
        ordersAre(edges, "18 steps", new int[] {30, 30, 10, 50, 20, 60}, 2610, 18, 5, 2, 4, 1, 3, 0);
        ordersAre(edges, "20 steps", new int[] {20, 60, 30, 70, 40, 40}, 3480, 20, 3, 0, 2, 5, 1, 4);
        ordersAre(edges, "0 first, and then back and forth", new int[] {30, 20, 10, 10, 20, 20}, 870, 16, 0, 4, 1, 3, 5, 2);
        ordersAre(edges, "2 first", new int[] {10, 20, 10, 20, 10, 10}, 870, 18, 2, 4, 1, 5, 3, 0);
        ordersAre(edges, "4 first", new int[] {30, 10, 10, 30, 10, 20}, 1740, 13, 4, 0, 3, 2, 1, 5);
    }

    private static void ordersAre(Edges edges, String edge, int[] loads, int cost, int steps, int... cabins) {
        edges.terms("THE BEST ORDER: of least COST, of like ones of fewest STEPS together", "of six cabins: " + edge, w -> {
            w.lade(6, loads);
            w.is(cost, "order", 0);
            w.is(steps, "order", 1);
            int order = 0;
            for (int i = 0; i < 6; i++) {
                w.is(cabins[i], "ordered", i);
                order = order * 30 + cabins[i];
            }
            w.is(-1, "ordered", 6);
            w.is(cost, "cost", order);
        });
    }

    private static void rolling(Edges edges) {
        edges.terms("L 0: it RESTS", "nobody up, one at the door, one at the top, two that are even", w -> {
            w.is(0, "roll");
            w.seat(1, 50);
            w.is(0, "roll");
            w.steps(3);
            w.is(0, "roll");
            w.is(3, "told", 0);
            w.seat(1, 50);
            w.steps(1);
            w.is(0, "roll");
            w.is(4, "told", 0);
        });
        edges.terms("L above 0: it goes to TURN r less 1", "past 0 to n less 1", w -> {
            w.lade(12, 0, 0, 10);
            w.is(870, "lean", 0);
            w.is(-2, "roll");
            w.is(10, "told", 0);
            w.is(2, "told", 2);
        });
        edges.terms("L above 0: it goes to TURN r less 1", "from 1 over 0, and from 0 itself, of each n", w -> {
            for (int n : new int[] {6, 10, 12, 20, 30}) {
                w.is(n, "build", n);
                w.steps(n - 1);
                w.seat(1, 10);
                w.steps(2);
                w.is(-2, "roll");
                w.is(n - 1, "told", 0);
                w.steps(1);
                w.is(-1, "roll");
                w.is(n - 1, "told", 0);
            }
        });
        edges.terms("L below 0: to r and 1", "past n less 1 to 0", w -> {
            w.lade(12, 0, 0, 0, 0, 0, 0, 0, 0, 0, 0, 10);
            w.is(-870, "lean", 0);
            w.is(2, "roll");
            w.is(2, "told", 0);
            w.steps(9);
            w.is(11, "told", 0);
            w.is(3, "roll");
            w.is(2, "told", 0);
        });
        edges.terms("L below 0: to r and 1", "from the last turn to 0, of each n", w -> {
            for (int n : new int[] {6, 10, 12, 20, 30}) {
                w.is(n, "build", n);
                w.seat(1, 10);
                w.steps(n - 1);
                w.is(1, "roll");
                w.is(0, "told", 0);
            }
        });
    }

    /** LEAN is -1180 at turn 3, 1 at 4, 1150 at 5, 1180 at 9, -1 at 10, -1150 at 11. */
    private static void nearlyEven(Tried w) {
        w.lade(12, 23, 0, 0, 0, 0, 0, 0, 40);
    }

    /** The other way round: LEAN is 1150 at turn 1, 1 at 2, -1180 at 3, -1150 at 7, -1 at 8, 1180 at 9. */
    private static void nearlyEvenMirrored(Tried w) {
        w.lade(12, 23, 0, 0, 0, 0, 40);
    }

    private static void rollsFrom(Tried w, int turn, long lean, long way) {
        w.steps((12 + turn - (int) w.ask("told", 0)) % 12);
        w.is(lean, "lean", turn);
        w.is(way, "roll");
        w.is((12 + turn + way) % 12, "told", 0);
    }

    private static void rollingRests(Edges edges) {
        edges.terms("if LEAN there is not below 0, else it RESTS", "there 1: it goes, and rests", w -> {
            nearlyEven(w);
            rollsFrom(w, 5, 1150, -1);
            rollsFrom(w, 9, 1180, -5);
        });
        edges.terms("if LEAN there is not below 0, else it RESTS", "there -1: it rests", w -> {
            nearlyEvenMirrored(w);
            w.is(-1, "lean", 8);
            rollsFrom(w, 9, 1180, 0);
        });
        edges.terms("if LEAN there is not below 0, else it RESTS", "there 0: it goes", w -> {
            w.lade(12, 10);
            rollsFrom(w, 1, 500, -1);
            rollsFrom(w, 5, 500, -5);
        });
        edges.terms("if LEAN there is not above 0, else it RESTS", "there -1: it goes, and rests", w -> {
            nearlyEvenMirrored(w);
            rollsFrom(w, 7, -1150, 1);
            w.is(-1, "lean", 8);
            rollsFrom(w, 3, -1180, 5);
        });
        edges.terms("if LEAN there is not above 0, else it RESTS", "there 1: it rests", w -> {
            nearlyEven(w);
            w.is(1, "lean", 4);
            rollsFrom(w, 3, -1180, 0);
        });
        edges.terms("if LEAN there is not above 0, else it RESTS", "there 0: it goes", w -> {
            w.lade(12, 10);
            rollsFrom(w, 11, -500, 1);
            rollsFrom(w, 7, -500, 5);
        });
        edges.terms("ROLLING (no drive, no brake)", "1 and -1 roll too, and nothing is driven or warms", w -> {
            nearlyEven(w);
            w.steps(10);
            long warmth = w.ask("told", 1);
            long steps = w.ask("told", 6);
            w.ask("drive", 0);
            w.ask("rule", 0, 0);
            w.is(-1, "lean", 10);
            w.is(5, "roll");
            w.is(3, "told", 0);
            w.is(warmth, "told", 1);
            w.is(steps, "told", 6);
            Tried other = w.another();
            nearlyEvenMirrored(other);
            other.steps(2);
            other.is(1, "lean", 2);
            other.is(-5, "roll");
            other.is(9, "told", 0);
        });
    }

    private static void lettingOut(Edges edges) {
        String sentence = "LETTING OUT: it rolls until it RESTS; if somebody is in THE CABIN at THE DOOR, all of it get off,"
            + " and again; else it ends: who is up is STRANDED";
        edges.terms(sentence, "nobody is up", w -> {
            w.refuses(0, "letOut");
            w.is(0, "stranded");
        });
        edges.terms(sentence, "somebody is at the door at once, and nobody else is up", w -> {
            w.seat(2, 10);
            w.seat(4, 10);
            w.is(0, "stranded");
            w.is(6, "letOut");
            w.is(0, "told", 0);
        });
        edges.terms(sentence, "nobody is at the door where it rests: nobody gets off", w -> {
            w.seat(6, 10);
            w.steps(3);
            w.is(6, "stranded");
            w.refuses(0, "letOut");
        });
        edges.terms(sentence, "again: with one cabin empty it rolls on to the next, past 0", w -> {
            w.lade(12, 20, 10, 10);
            w.is(0, "stranded");
            w.is(3, "letOut");
            w.is(0, "told", 4);
            w.is(10, "told", 0);
        });
        edges.terms(sentence, "again: by the leans without who got off, at TURN 0 too", w -> {
            // at turn 2 cabin 10 gets off; with it the lean at turn 0 were below 0
            w.lade(12, 0, 10, 0, 0, 0, 0, 0, 0, 0, 0, 20);
            w.steps(2);
            w.is(-1240, "lean", 0);
            w.is(-130, "lean", 1);
            w.is(0, "stranded");
            w.is(2, "letOut");
            w.is(11, "told", 0);
        });
        edges.terms(sentence, "again, and then it ends with one at the top", w -> {
            w.seat(1, 50);
            w.steps(3);
            w.seat(6, 10);
            w.is(1, "stranded");
            w.is(6, "letOut");
            w.is(1, "told", 4);
            w.is(0, "party", 0, 3);
            w.is(101, "party", 1, 3);
        });
        edges.terms(sentence, "it rests ahead of a change of sign, with nobody at the door", w -> {
            nearlyEven(w);
            w.steps(4);
            w.is(2, "stranded");
            w.is(0, "letOut");
            w.is(4, "told", 0);
        });
    }

    // ---- promises

    private static void order(Edges edges) {
        edges.promise(24, "NONE: no CABIN has a LOAD", "nobody came, nobody boarded, nobody is up any more", w -> {
            w.refuses(-1, "order", 0);
            w.refuses(-1, "order", 1);
            w.ask("come", 1, 10, 10, 10, 0);
            w.refuses(-1, "order", 0);
            w.is(0, "next");
            w.refuses(0, "order", 0);
            w.is(1, "leave", 0);
            w.refuses(-1, "order", 0);
        });
        edges.promise(24, "OUTSIDE", "-1, 2, and 32 bits at their ends", w -> {
            w.busy();
            w.that("order(1) is there", w.ask("order", 1) > 0);
            for (int what : new int[] {-1, 2, LOW, HIGH}) {
                w.refuses(-102, "order", what);
            }
        });
        edges.promise(24, "OUTSIDE; STATE: more than 6 have", "both: OUTSIDE is told first", w -> {
            w.lade(10, SIX);
            w.seat(1, 5);
            w.refuses(-102, "order", 2);
            w.refuses(-102, "order", -1);
            w.refuses(-103, "order", 1);
        });
        edges.promise(24, "NONE: no CABIN has a LOAD. OUTSIDE", "both: it is refused", w -> {
            w.refuses(-102, "order", 2);
            w.refuses(-102, "order", -1);
            w.refuses(-102, "order", LOW);
            w.refuses(-102, "order", HIGH);
        });
        edges.promise(24, "THE BEST ORDER: what = 0 its COST, 1 STEPS", "nothing is done by it", w -> {
            w.busy();
            w.refuses(w.ask("order", 0), "order", 0);
            w.refuses(w.ask("order", 1), "order", 1);
        });
    }

    private static void thirtyTimes(Edges edges) {
        String sentence = "it was done 30 times with ordered()";
        edges.promise(24, sentence, "the 30th order() is done, the 31st is not", w -> {
            w.seat(1, 10);
            for (int i = 1; i <= 30; i++) {
                w.is(0, "order", i % 2);
            }
            w.refuses(-103, "order", 0);
            w.refuses(-103, "order", 1);
            w.refuses(-103, "ordered", 0);
        });
        edges.promise(24, sentence, "29 with order() and one with ordered()", w -> {
            w.seat(1, 10);
            for (int i = 1; i <= 29; i++) {
                w.is(0, "order", 1);
            }
            w.is(0, "ordered", 0);
            w.refuses(-103, "order", 1);
        });
        edges.promise(24, sentence, "OUTSIDE, and STATE of seven, are none of them", w -> {
            w.lade(10, SIX);
            for (int i = 1; i <= 29; i++) {
                w.that("order(0) the " + i + "th time", w.ask("order", 0) > 0);
                w.is(-102, "order", 2);
            }
            w.seat(1, 5);
            w.is(-103, "order", 0);
            w.is(-103, "ordered", 0);
            w.is(1, "leave", 6);
            w.that("order(0) the 30th time", w.ask("order", 0) > 0);
            w.refuses(-103, "order", 0);
        });
        edges.promise(24, sentence, "then OUTSIDE is still told first, and STATE ahead of NONE", w -> {
            for (int i = 1; i <= 30; i++) {
                w.is(-1, "order", 0);
            }
            w.refuses(-102, "order", 2);
            w.refuses(-103, "order", 0);
            w.refuses(-103, "ordered", 0);
            w.seat(1, 10);
            w.refuses(-103, "order", 0);
        });
        edges.promise(24, sentence, "cost() and stranded() are none of them, and go on", w -> {
            w.seat(1, 10);
            for (int i = 1; i <= 30; i++) {
                w.is(0, "cost", 0);
                w.is(0, "stranded");
            }
            for (int i = 1; i <= 30; i++) {
                w.is(0, "order", 0);
            }
            w.is(-103, "order", 0);
            w.is(0, "cost", 0);
        });
        edges.promise(24, sentence, "build() gives no more of them", w -> {
            w.seat(1, 10);
            for (int i = 1; i <= 30; i++) {
                w.is(0, "order", 0);
            }
            w.is(6, "build", 6);
            w.refuses(-103, "order", 0);
        });
        edges.promise(25, "STATE, as order()", "the 30th ordered() is done, the 31st is not", w -> {
            w.seat(1, 10);
            for (int i = 1; i <= 30; i++) {
                w.is(i % 2 == 0 ? 0 : -1, "ordered", i % 2);
            }
            w.refuses(-103, "ordered", 0);
            w.refuses(-103, "order", 0);
        });
    }

    private static void ordered(Edges edges) {
        edges.promise(25, "The i-th CABIN of THE BEST ORDER; NONE", "the first, the sixth; -1, 6, and 32 bits at their ends", w -> {
            w.lade(10, SIX);
            w.that("ordered(0)", w.ask("ordered", 0) >= 1);
            w.that("ordered(5)", w.ask("ordered", 5) >= 1);
            for (int i : new int[] {-1, 6, LOW, HIGH}) {
                w.refuses(-1, "ordered", i);
            }
        });
        edges.promise(25, "The i-th CABIN of THE BEST ORDER; NONE", "no cabin has a load", w -> {
            w.refuses(-1, "ordered", 0);
            w.refuses(-1, "ordered", -1);
        });
        edges.promise(25, "The i-th CABIN of THE BEST ORDER; NONE", "the first and the last cabin of thirty", w -> {
            w.ask("build", 30);
            w.seat(1, 10);
            w.steps(1);
            w.seat(1, 10);
            w.steps(28);
            w.is(29, "told", 0);
            w.is(0, "ordered", 0);
            w.is(29, "ordered", 1);
            w.is(2, "order", 1);
        });
        edges.promise(25, "STATE, as order()", "seven have a load; ahead of NONE", w -> {
            w.lade(10, SIX);
            w.seat(1, 5);
            for (int i : new int[] {0, 6, -1, LOW, HIGH}) {
                w.refuses(-103, "ordered", i);
            }
        });
    }

    private static void cost(Edges edges) {
        edges.promise(26, "as many as have a LOAD", "none: 0 alone is told so", w -> {
            w.refuses(0, "cost", 0);
            for (int order : new int[] {1, -1, 30, LOW, HIGH}) {
                w.refuses(-102, "cost", order);
            }
        });
        edges.promise(26, "as many as have a LOAD", "one, with number 0", w -> {
            w.seat(1, 10);
            w.refuses(0, "cost", 0);
            w.refuses(-102, "cost", 1);
            w.refuses(-102, "cost", 30);
            w.refuses(-102, "cost", -1);
        });
        edges.promise(26, "as many as have a LOAD", "one, with number 29", w -> {
            w.ask("build", 30);
            w.steps(1);
            w.seat(1, 10);
            w.refuses(0, "cost", 29);
            w.refuses(-102, "cost", 28);
            w.refuses(-102, "cost", 30);
            w.refuses(-102, "cost", 29 * 30 + 29);
            w.refuses(-102, "cost", 30 + 29);
        });
        edges.promise(26, "told by its CABINS as figures of base 30, the first one highest", "two, 0 among them", w -> {
            w.lade(6, 20, 30);
            w.refuses(30 * 87, "cost", 1);
            w.refuses(50 * 87, "cost", 30);
            w.refuses(-102, "cost", 0);
            w.refuses(-102, "cost", 31);
            w.refuses(-102, "cost", 900 + 1);
        });
        edges.promise(26, "told by its CABINS as figures of base 30, the first one highest", "six, as high as figures go", w -> {
            w.ask("build", 30);
            w.ask("rule", 0, 1000000);
            for (int i = 0; i < 6; i++) {
                w.steps(1);
                w.seat(1, 10);
            }
            w.steps(24);
            // 29 is emptied, then 28, and so on: with each of the first five more than one of ten still is ahead
            int order = 0;
            for (int c = 29; c >= 24; c--) {
                order = order * 30 + c;
            }
            w.that("order " + order + " has six figures", order > 29 * 24300000);
            w.is(10 * (21 + 41 + 59 + 74 + 87), "cost", order);
            w.is(-102, "cost", order - 24300000);
            w.is(-102, "cost", 729000000);
            w.is(-102, "cost", 728999999);
            w.is(-102, "cost", HIGH);
        });
    }

    private static void costRefused(Edges edges) {
        edges.promise(26, "OUTSIDE: it does not name each of them once", "one twice, one too few, one too many, another", w -> {
            w.lade(6, 0, 100, 0, 0, 90);
            w.refuses(8700, "cost", 4 * 30 + 1);
            w.refuses(90 * 87, "cost", 30 + 4);
            w.refuses(-102, "cost", 30 + 1);
            w.refuses(-102, "cost", 4 * 30 + 4);
            w.refuses(-102, "cost", 4);
            w.refuses(-102, "cost", 1);
            w.refuses(-102, "cost", 900 + 30 + 4);
            w.refuses(-102, "cost", 4 * 900 + 30 + 4);
            w.refuses(-102, "cost", 4 * 30);
            w.refuses(-102, "cost", 30 + 5);
            w.refuses(-102, "cost", 30 + 29);
        });
        edges.promise(26, "OUTSIDE: it does not name each of them once", "below 0, and 32 bits at their ends", w -> {
            w.lade(6, 0, 100, 0, 0, 90);
            for (int order : new int[] {-1, -34, -121, -30, LOW, HIGH}) {
                w.refuses(-102, "cost", order);
            }
        });
        edges.promise(26, "STATE: more than 6 have a LOAD; OUTSIDE", "both: STATE is told first", w -> {
            w.lade(10, SIX);
            w.seat(1, 5);
            for (int order : new int[] {0, -1, 1, LOW, HIGH}) {
                w.refuses(-103, "cost", order);
            }
        });
    }

    private static void roll(Edges edges) {
        edges.promise(27, "how many PLACES it went, back below 0", "none, nearly half round back, nearly half round onward", w -> {
            w.ask("build", 30);
            w.seat(1, 10);
            w.refuses(0, "roll");
            w.steps(14);
            w.is(-14, "roll");
            w.is(0, "told", 0);
            w.steps(16);
            w.is(14, "roll");
            w.is(0, "told", 0);
            w.steps(15);
            w.refuses(0, "roll");
            w.is(15, "told", 0);
        });
        edges.promise(27, "It rolls until it RESTS", "none of the PLACES is a STEP, nor a STOP", w -> {
            w.ask("build", 12);
            w.seat(1, 10);
            w.is(1, "step");
            w.is(-1, "roll");
            w.is(1, "told", 6);
            w.is(0, "party", 0, 4);
        });
    }

    private static void rollIsNoStop(Edges edges) {
        edges.promise(27, "It rolls until it RESTS", "it is no STOP: who is at the top has not SEEN", w -> {
            w.seat(1, 10);
            w.is(1, "step");
            w.is(2, "step");
            w.is(3, "step");
            w.is(0, "roll");
            w.is(0, "letOut");
            w.is(1, "stranded");
            w.is(0, "party", 0, 4);
        });
    }

    private static void letOut(Edges edges) {
        edges.promise(28, "LETTING OUT: PERSONS who got off", "who waits is none of them", w -> {
            w.ask("come", 6, 10, 10, 10, 0);
            w.refuses(0, "letOut");
            w.is(0, "next");
            w.ask("come", 1, 10, 10, 10, 0);
            w.is(6, "letOut");
            w.is(1, "told", 5);
            w.is(100, "party", 1, 3);
        });
        edges.promise(28, "LETTING OUT: PERSONS who got off", "BOUND and the drive are nothing to it", w -> {
            w.seat(1, 100);
            w.steps(3);
            w.seat(1, 100);
            w.ask("rule", 0, 0);
            w.ask("drive", 0);
            w.is(-103, "leave", 1);
            w.is(1, "stranded");
            w.is(1, "letOut");
            w.is(8700, "greatest");
            w.is(3, "told", 0);
        });
        edges.promise(28, "LETTING OUT: PERSONS who got off", "all of a cabin of six parties, past 0", w -> {
            w.steps(5);
            for (int i = 0; i < 6; i++) {
                w.seat(1, 10);
            }
            w.steps(2);
            w.is(1, "told", 0);
            w.is(6, "letOut");
            w.is(5, "told", 0);
            w.is(0, "cabin", 1, 1);
            w.is(0, "load", 1);
            w.is(0, "greatest");
            for (int p = 0; p < 6; p++) {
                w.is(101, "party", p, 3);
            }
        });
    }

    private static void stranded(Edges edges) {
        edges.promise(29, "How many PERSONS would be STRANDED by LETTING OUT now; nothing is done", "nobody, none of six, all six",
            w -> {
                w.refuses(0, "stranded");
                w.seat(6, 10);
                w.refuses(0, "stranded");
                w.steps(2);
                w.refuses(0, "stranded");
                w.is(2, "told", 0);
                w.steps(1);
                w.refuses(6, "stranded");
            });
        edges.promise(29, "How many PERSONS would be STRANDED by LETTING OUT now; nothing is done", "who waits is none of them",
            w -> {
                w.ask("come", 6, 10, 10, 10, 0);
                w.refuses(0, "stranded");
            });
        edges.promise(29, "nothing is done", "letOut() behind it does as it told", w -> {
            w.busy();
            long up = w.ask("told", 4);
            long stay = w.ask("stranded");
            w.is(up - stay, "letOut");
            w.is(stay, "told", 4);
            w.is(stay, "stranded");
        });
    }

    // ---- whole sentences, beside their edges

    private static void reallyEmptied(Edges edges) {
        String sentence = "EMPTYING by an ORDER of all CABINS with a LOAD (6 at most): each is brought to THE DOOR by STEPS onward"
            + " (none, if it is there), and emptied whole. COST: the greatest LEAN without its sign at any TURN that it comes to"
            + " (0 without).";
        for (int[] row : EMPTIED) {
            int n = row[0];
            edges.terms(sentence, "done by step() and leave(): n " + n + ", TURN " + row[1] + ", " + row[2] + ", " + row[3]
                + ", " + row[4], w -> {
                    int[] loads = new int[n];
                    loads[row[2]] = 40;
                    loads[row[3]] = 90;
                    loads[row[4]] = 70;
                    w.lade(n, loads);
                    w.steps(row[1]);
                    w.ask("rule", 1, 10000);
                    long told = w.ask("cost", (row[2] * 30 + row[3]) * 30 + row[4]);
                    long least = w.ask("order", 0);
                    long greatest = 0;
                    for (int i = 2; i <= 4; i++) {
                        while (w.ask("told", 2) != row[i]) {
                            w.that("a STEP is done", w.ask("step") >= 0);
                            greatest = Math.max(greatest, Math.abs(w.ask("lean", (int) w.ask("told", 0))));
                        }
                        w.is(1, "leave", (int) w.ask("inside", row[i], 0));
                    }
                    w.that("cost() told " + told + ", it was " + greatest, told == greatest);
                    w.that("order() told no more: " + least, least <= greatest);
                });
        }
    }

    private static void anotherOrder(Edges edges) {
        edges.promise(26, "COST of another ORDER, told by its CABINS as figures of base 30, the first one highest: as many as have"
            + " a LOAD", "each of six orders of three cabins, none like another", w -> {
                w.lade(12, 0, 70, 0, 0, 20, 0, 0, 0, 90);
                // kept by the cabins still up: arms and loads as they stand in the document
                int[] loads = {70, 20, 90};
                int[] cabins = {1, 4, 8};
                int[][] orders = {{0, 1, 2}, {0, 2, 1}, {1, 0, 2}, {1, 2, 0}, {2, 0, 1}, {2, 1, 0}};
                int[] arms = {0, 50, 87, 100, 87, 50, 0, -50, -87, -100, -87, -50};
                for (int[] order : orders) {
                    boolean[] gone = new boolean[3];
                    int turn = 0;
                    int due = 0;
                    for (int k : order) {
                        while ((cabins[k] + turn) % 12 != 0) {
                            turn++;
                            int lean = 0;
                            for (int i = 0; i < 3; i++) {
                                lean += gone[i] ? 0 : loads[i] * arms[(cabins[i] + turn) % 12];
                            }
                            due = Math.max(due, Math.abs(lean));
                        }
                        gone[k] = true;
                    }
                    w.refuses(due, "cost", (cabins[order[0]] * 30 + cabins[order[1]]) * 30 + cabins[order[2]]);
                }
            });
    }

    private static void rollsAsTheLeansSay(Edges edges) {
        String sentence = "ROLLING (no drive, no brake): at a TURN with LEAN L: L 0: it RESTS. L above 0: it goes to TURN r less 1,"
            + " if LEAN there is not below 0, else it RESTS; L below 0: to r and 1, if LEAN there is not above 0, else it RESTS.";
        int[][] all = {{10}, {40, 0, 0, 30}, {10, 80, 0, 0, 0, 90}, {23, 0, 0, 0, 0, 0, 0, 0, 40}, {23, 0, 0, 0, 0, 0, 40},
            {0, 60, 0, 0, 0, 0, 0, 60}, {5, 6, 7, 8, 9, 10, 11, 12, 13, 14, 15, 16}};
        for (int i = 0; i < all.length; i++) {
            int[] loads = all[i];
            edges.terms(sentence, "from each turn, by the leans as they are told: wheel " + i, w -> {
                w.lade(12, loads);
                w.ask("drive", 0);
                w.ask("rule", 0, 0);
                int[] leans = new int[12];
                for (int r = 0; r < 12; r++) {
                    leans[r] = (int) w.ask("lean", r);
                }
                for (int from = 0; from < 12; from++) {
                    w.ask("drive", 1);
                    w.ask("rule", 0, 1000000);
                    w.steps((12 + from - (int) w.ask("told", 0)) % 12);
                    w.ask("drive", 0);
                    w.ask("rule", 0, 0);
                    int way = wayToRest(leans, from);
                    w.is(way, "roll");
                    w.is((12 + from + way) % 12, "told", 0);
                }
            });
        }
    }

    private static int wayToRest(int[] leans, int from) {
        int n = leans.length;
        int way = 0;
        while (Math.abs(way) <= n) {
            int lean = leans[(2 * n + from + way) % n];
            int ahead = leans[(2 * n + from + way + (lean > 0 ? -1 : 1)) % n];
            if (lean == 0 || lean > 0 && ahead < 0 || lean < 0 && ahead > 0) {
                return way;
            }
            way += lean > 0 ? -1 : 1;
        }
        return way;
    }
}
