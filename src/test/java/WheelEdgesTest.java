import java.util.function.IntConsumer;

/** Edges of 'Terms' 1, THE WHEEL, and of promises 1 to 15. */
public final class WheelEdgesTest {
    private static final int LOW = Integer.MIN_VALUE;
    private static final int HIGH = Integer.MAX_VALUE;
    private static final int[] SIZES = {6, 10, 12, 20, 30};

    public static void main(String[] args) {
        Edges edges = new Edges("WheelEdgesTest");
        numbersRoundTheRim(edges);
        placesAndTurns(edges);
        arms(edges);
        loads(edges);
        leans(edges);
        bound(edges);
        steps(edges);
        brake(edges);
        cooling(edges);
        whyTooGreat(edges);
        whyTooHot(edges);
        whyNoDrive(edges);
        whyTheFirst(edges);
        newObject(edges);
        build(edges);
        buildStartsAnew(edges);
        armAndTold(edges);
        rules(edges);
        drive(edges);
        leanGreatestWorst(edges);
        loadCabinInside(edges);
        stepAndWhy(edges);
        stop(edges);
        seen(edges);
        calls(edges);
        likeSteps(edges);
        armsMirrored(edges);
        notDone(edges);
        buildTellsN(edges);
        toldAtEachTurn(edges);
        driveAlone(edges);
        stopIsSteps(edges);
        edges.end(1, 15);
    }

    private static void calls(Edges edges) {
        edges.whatItIs("An object is used for at most 512 calls after it has been made", "the 512th is still due", w -> {
            for (int i = 1; i <= 511; i++) {
                w.is(i % 6, "step");
            }
            w.is(511, "told", 6);
        });
    }

    private static void eachSize(Tried w, IntConsumer test) {
        for (int n : SIZES) {
            w.is(n, "build", n);
            test.accept(n);
        }
    }

    // ---- Terms

    private static void numbersRoundTheRim(Edges edges) {
        edges.terms("CABINS 0 to n less 1", "0 and n less 1 are, one less and one more are not", w -> eachSize(w, n -> {
            w.is(0, "load", 0);
            w.is(0, "load", n - 1);
            w.refuses(-101, "load", -1);
            w.refuses(-101, "load", n);
        }));
        edges.terms("PLACES 0 to n less 1", "0 and n less 1 are, one less and one more are not", w -> eachSize(w, n -> {
            w.is(0, "arm", 0);
            w.that("arm(n less 1) is below 0", w.ask("arm", n - 1) < 0);
            w.refuses(-1000, "arm", -1);
            w.refuses(-1000, "arm", n);
        }));
        edges.terms("THE TURN r (0 to n less 1; 0 at first)", "0 and n less 1 are, one less and one more are not",
            w -> eachSize(w, n -> {
                w.is(0, "told", 0);
                w.is(0, "lean", 0);
                w.is(0, "lean", n - 1);
                w.refuses(-1000000001, "lean", -1);
                w.refuses(-1000000001, "lean", n);
            }));
        edges.terms("n 6, 10, 12, 20 or 30; 6 at first", "six at first", w -> {
            w.is(5, "cabin", 5, 3);
            w.is(-101, "cabin", 6, 3);
            w.is(3, "told", 3);
        });
        edges.terms("n 6, 10, 12, 20 or 30; 6 at first", "the five, and what lies next to each", w -> {
            for (int n : SIZES) {
                w.is(n, "build", n);
                w.refuses(-102, "build", n - 1);
                w.refuses(-102, "build", n + 1);
            }
        });
    }

    private static void placesAndTurns(Edges edges) {
        edges.terms("0 is THE DOOR, lowest", "its arm is 0, and cabin 0 is there at first", w -> eachSize(w, n -> {
            w.is(0, "arm", 0);
            w.is(0, "told", 2);
            w.is(0, "cabin", 0, 3);
        }));
        edges.terms("n by 2 the top", "its arm is 0, and who is there has seen", w -> eachSize(w, n -> {
            w.is(0, "arm", n / 2);
            w.is(n / 2, "told", 3);
            w.seat(1, 50);
            w.steps(n / 2 - 1);
            w.is(0, "party", 0, 4);
            w.steps(1);
            w.is(0, "told", 3);
            w.is(1, "party", 0, 4);
        }));
        edges.terms("With THE TURN r (0 to n less 1; 0 at first) CABIN c is at PLACE (c and r) modulo n",
            "the last cabin goes past n less 1 to 0", w -> eachSize(w, n -> {
                w.is(n - 1, "cabin", n - 1, 3);
                w.is(n - 2, "cabin", n - 2, 3);
                w.is(1, "step");
                w.is(0, "cabin", n - 1, 3);
                w.is(n - 1, "cabin", n - 2, 3);
                w.is(1, "cabin", 0, 3);
                w.is(n - 1, "told", 2);
            }));
        edges.terms("CABIN c is at PLACE (c and r) modulo n", "the first cabin at the last place, at the last turn",
            w -> eachSize(w, n -> {
                w.steps(n - 1);
                w.is(n - 1, "cabin", 0, 3);
                w.is(0, "cabin", 1, 3);
                w.is(n - 2, "cabin", n - 1, 3);
                w.is(1, "told", 2);
                w.is(n / 2 + 1, "told", 3);
            }));
        edges.terms("CABIN c is at PLACE (c and r) modulo n", "door and top at every turn", w -> eachSize(w, n -> {
            w.is(n, "build", n);
            for (int r = 1; r <= n; r++) {
                w.steps(1);
                w.is((n - r) % n, "told", 2);
                w.is((n + n / 2 - r) % n, "told", 3);
            }
        }));
    }

    private static void arms(Edges edges) {
        edges.terms("u how far q is from the nearest of 0, 30, 60 (0 to 15)", "u 0: the door and the top",
            w -> eachSize(w, n -> {
                w.is(0, "arm", 0);
                w.is(0, "arm", n / 2);
            }));
        edges.terms("u how far q is from the nearest of 0, 30, 60 (0 to 15)", "u 15, at q 15 and 45", w -> {
            w.ask("build", 12);
            w.is(100, "arm", 3);
            w.is(-100, "arm", 9);
            w.ask("build", 20);
            w.is(100, "arm", 5);
            w.is(-100, "arm", 15);
        });
        edges.terms("u how far q is from the nearest of 0, 30, 60 (0 to 15)", "u 14 on both sides of 15 and 45", w -> {
            w.ask("build", 30);
            w.is(99, "arm", 7);
            w.is(99, "arm", 8);
            w.is(-99, "arm", 22);
            w.is(-99, "arm", 23);
        });
        edges.terms("below 0, if q is above 30", "q 28, 30, 32", w -> {
            w.ask("build", 30);
            w.is(21, "arm", 14);
            w.is(0, "arm", 15);
            w.is(-21, "arm", 16);
        });
        edges.terms("below 0, if q is above 30", "q 27, 30, 33, and the last place", w -> {
            w.ask("build", 20);
            w.is(31, "arm", 9);
            w.is(0, "arm", 10);
            w.is(-31, "arm", 11);
            w.is(-31, "arm", 19);
        });
        edges.terms("0, 10, 21, 31, 41, 50, 59, 67, 74, 81, 87, 91, 95, 98, 99, 100 for u 0 to 15",
            "each place of each wheel", w -> {
                int[] told = {0, 10, 21, 31, 41, 50, 59, 67, 74, 81, 87, 91, 95, 98, 99, 100};
                eachSize(w, n -> {
                    for (int p = 0; p < n; p++) {
                        int q = 60 * p / n;
                        int u = Math.min(Math.min(q, Math.abs(q - 30)), 60 - q);
                        w.is(q > 30 ? -told[u] : told[u], "arm", p);
                    }
                });
            });
    }

    private static void loads(Edges edges) {
        edges.terms("LOAD of a CABIN: what all in it WEIGH together", "nobody in it", w -> {
            w.is(0, "load", 0);
            w.seat(1, 5);
            w.is(0, "load", 1);
            w.is(1, "leave", 0);
            w.is(0, "load", 0);
        });
        edges.terms("LOAD of a CABIN: what all in it WEIGH together", "the least, one of 5, and the most, six of 150", w -> {
            w.ask("rule", 0, 1000000);
            w.seat(1, 5);
            w.is(5, "load", 0);
            w.steps(1);
            w.seat(6, 150);
            w.is(900, "load", 5);
            w.is(5, "load", 0);
        });
        edges.terms("LOAD of a CABIN: what all in it WEIGH together", "six parties in one cabin", w -> {
            for (int i = 0; i < 6; i++) {
                w.seat(1, 100 + i);
            }
            w.is(615, "load", 0);
        });
    }

    private static void leans(Edges edges) {
        edges.terms("LEAN at a TURN: the sum over CABINS of LOAD times ARM of the PLACE that it has at that TURN",
            "nobody up", w -> eachSize(w, n -> {
                for (int r = 0; r < n; r++) {
                    w.is(0, "lean", r);
                }
            }));
        edges.terms("LEAN at a TURN: the sum over CABINS of LOAD times ARM of the PLACE that it has at that TURN",
            "the last cabin, that goes past n less 1", w -> {
                w.lade(6, 0, 0, 0, 0, 0, 10);
                int[] due = {-870, 0, 870, 870, 0, -870};
                for (int r = 0; r < 6; r++) {
                    w.is(due[r], "lean", r);
                }
            });
        edges.terms("LEAN at a TURN: the sum over CABINS of LOAD times ARM of the PLACE that it has at that TURN",
            "two that lean against each other are even", w -> {
                w.lade(12, 0, 70, 0, 0, 0, 0, 0, 70);
                for (int r = 0; r < 12; r++) {
                    w.is(0, "lean", r);
                }
                w.is(0, "greatest");
                w.is(0, "worst");
            });
        edges.terms("GREATEST LEAN: of all TURNS the greatest LEAN without its sign", "nobody up",
            w -> eachSize(w, n -> w.is(0, "greatest")));
        edges.terms("GREATEST LEAN: of all TURNS the greatest LEAN without its sign", "one that leans nothing where it is",
            w -> {
                w.seat(1, 5);
                w.is(0, "lean", 0);
                w.is(435, "greatest");
            });
        edges.terms("GREATEST LEAN: of all TURNS the greatest LEAN without its sign", "as great as there is any", w -> {
            w.ask("build", 30);
            w.ask("rule", 0, 1000000);
            for (int i = 0; i < 15; i++) {
                w.seat(6, 150);
                w.steps(i < 14 ? 1 : 0);
            }
            w.is(856800, "lean", 14);
            w.is(856800, "greatest");
            w.is(-856800, "lean", 29);
        });
    }

    private static void bound(Edges edges) {
        edges.terms("BOUND (0 to 1000000; 60000 at first)", "0 and 1000000 are allowed, one less and one more are not", w -> {
            w.is(60000, "rule", 0, 0);
            w.is(0, "rule", 0, 1000000);
            w.refuses(-102, "rule", 0, -1);
            w.refuses(-102, "rule", 0, 1000001);
            w.is(1000000, "rule", 0, 60000);
        });
        edges.terms("BOUND (0 to 1000000; 60000 at first)", "60000 holds at first: 600 times 100 is not above it", w -> {
            w.ask("build", 12);
            w.ask("come", 4, 150, 150, 150, 0);
            w.is(1, "may", 0);
            w.ask("come", 5, 120, 120, 121, 0);
            w.is(601, "party", 1, 1);
            w.is(0, "may", 1);
        });
        edges.terms("BOUND (0 to 1000000; 60000 at first)", "with 0 only what is even goes", w -> {
            w.ask("rule", 0, 0);
            w.is(1, "step");
            w.ask("come", 1, 5, 5, 5, 0);
            w.is(0, "may", 0);
        });
    }

    private static void steps(Edges edges) {
        edges.terms("A STEP comes to the next TURN (r and 1, modulo n)", "past n less 1 to 0", w -> eachSize(w, n -> {
            for (int r = 1; r < n; r++) {
                w.is(r, "step");
            }
            w.is(0, "step");
            w.is(0, "told", 0);
            w.is(n, "told", 6);
            w.is(1, "step");
        }));
        edges.terms("With L the LEAN there", "there is TURN 0, if it is at n less 1", w -> {
            w.lade(6, 0, 0, 0, 0, 60, 0);
            w.steps(5);
            w.is(-5220, "lean", 0);
            w.ask("rule", 0, 5219);
            w.is(1, "why");
            w.refuses(-103, "step");
            w.ask("rule", 0, 5220);
            w.is(0, "why");
            long warmth = w.ask("told", 1);
            w.is(0, "step");
            w.is(warmth + 52, "told", 1);
        });
        edges.terms("WORK is L without its sign by 100, rounded down", "250 is 2, and 300 is 3", w -> {
            w.ask("build", 12);
            w.seat(1, 5);
            w.steps(7);
            w.is(2, "told", 1);
            w.ask("build", 12);
            w.seat(1, 6);
            w.steps(7);
            w.is(3, "told", 1);
        });
        edges.terms("WORK is L without its sign by 100, rounded down", "L -1 is 0: nothing grows, and nothing cools", w -> {
            // 23 times 87 is one more than 40 times 50: LEAN at turn 10 is -1
            w.lade(12, 23, 0, 0, 0, 0, 0, 0, 40);
            w.ask("rule", 2, 0);
            w.steps(9);
            long warmth = w.ask("told", 1);
            w.that("WARMTH " + warmth + " at turn 9", warmth > 20);
            w.ask("rule", 2, 20);
            w.is(-1, "lean", 10);
            w.is(10, "step");
            w.is(warmth, "told", 1);
        });
        edges.terms("WORK is L without its sign by 100, rounded down", "99 is 0, and 100 is 1", w -> {
            w.lade(30, 11, 0, 0, 0, 0, 0, 0, 0, 0, 0, 0, 0, 0, 0, 0, 10);
            w.ask("rule", 2, 0);
            w.is(0, "told", 1);
            w.steps(23);
            w.is(-99, "lean", 23);
            w.is(0, "told", 1);
            Tried other = w.another();
            other.lade(20, 11, 0, 0, 0, 0, 0, 0, 0, 0, 0, 10);
            other.ask("rule", 2, 0);
            other.steps(14);
            other.is(0, "told", 1);
            other.is(-100, "lean", 15);
            other.steps(1);
            other.is(1, "told", 1);
        });
    }

    private static void brake(Edges edges) {
        edges.terms("WARMTH (0 at first) grows by WORK", "0 at first, and with the first L below 0 it grows", w -> {
            w.is(0, "told", 1);
            w.seat(1, 100);
            w.steps(3);
            w.is(0, "told", 1);
            w.steps(1);
            w.is(87, "told", 1);
            w.steps(1);
            w.is(174, "told", 1);
        });
        edges.terms("L below 0: the wheel is held back by THE BRAKE", "L -1 needs no drive, L 1 does", w -> {
            w.lade(12, 23, 0, 0, 0, 0, 0, 0, 40);
            w.is(1, "lean", 4);
            w.is(-1, "lean", 10);
            w.steps(3);
            w.ask("drive", 0);
            w.is(3, "why");
            w.ask("drive", 1);
            w.steps(6);
            w.ask("drive", 0);
            w.is(0, "why");
            w.is(10, "step");
        });
        edges.terms("L above 0: it is driven", "L 0 is not: no drive is needed", w -> {
            w.seat(1, 100);
            w.steps(2);
            w.ask("drive", 0);
            w.is(0, "lean", 3);
            w.is(3, "step");
        });
    }

    private static void cooling(Edges edges) {
        edges.terms("L not below 0: WARMTH falls by COOLING (0 to 500; 20 at first), to 0 at least",
            "0 and 500 are allowed, one less and one more are not", w -> {
                w.is(20, "rule", 2, 0);
                w.is(0, "rule", 2, 500);
                w.refuses(-102, "rule", 2, -1);
                w.refuses(-102, "rule", 2, 501);
                w.is(500, "rule", 2, 20);
            });
        edges.terms("L not below 0: WARMTH falls by COOLING (0 to 500; 20 at first), to 0 at least",
            "by 20 at first, at L 0 and at L above 0", w -> {
                w.seat(1, 100);
                w.steps(5);
                w.is(174, "told", 1);
                w.is(0, "lean", 0);
                w.steps(1);
                w.is(154, "told", 1);
                w.is(8700, "lean", 1);
                w.steps(1);
                w.is(134, "told", 1);
            });
        int[][] falls = {{173, 1}, {174, 0}, {175, 0}, {500, 0}, {0, 174}};
        for (int[] fall : falls) {
            edges.terms("L not below 0: WARMTH falls by COOLING (0 to 500; 20 at first), to 0 at least",
                "from 174 by " + fall[0], w -> {
                    w.seat(1, 100);
                    w.steps(5);
                    w.is(174, "told", 1);
                    w.ask("rule", 2, fall[0]);
                    w.steps(1);
                    w.is(fall[1], "told", 1);
                });
        }
        edges.terms("L not below 0: WARMTH falls by COOLING (0 to 500; 20 at first), to 0 at least",
            "0 stays 0", w -> {
                w.ask("rule", 2, 500);
                w.steps(60);
                w.is(0, "told", 1);
            });
        edges.terms("L not below 0: WARMTH falls by COOLING (0 to 500; 20 at first), to 0 at least",
            "with 0 nothing falls, with 500 the most", w -> {
                w.seat(2, 144);
                w.steps(5);
                w.is(500, "told", 1);
                w.ask("rule", 2, 0);
                w.steps(4);
                w.is(500, "told", 1);
                w.ask("rule", 2, 500);
                w.steps(2);
                w.is(1000, "told", 1);
                w.steps(1);
                w.is(500, "told", 1);
                w.steps(1);
                w.is(0, "told", 1);
            });
    }

    private static void whyTooGreat(Edges edges) {
        edges.terms("1 L without its sign is above BOUND", "L above 0: at BOUND, and one above", w -> {
            w.seat(1, 100);
            w.ask("rule", 0, 8700);
            w.is(0, "why");
            w.ask("rule", 0, 8699);
            w.is(1, "why");
            w.refuses(-103, "step");
            w.ask("rule", 0, 8700);
            w.is(1, "step");
        });
        edges.terms("1 L without its sign is above BOUND", "L below 0: at BOUND, and one above", w -> {
            w.seat(1, 100);
            w.steps(3);
            w.ask("rule", 0, 8699);
            w.is(1, "why");
            w.refuses(-103, "step");
            w.ask("rule", 0, 8700);
            w.is(0, "why");
            w.is(4, "step");
        });
        edges.terms("1 L without its sign is above BOUND", "the LEAN there, not the greatest of all turns", w -> {
            w.ask("build", 30);
            w.seat(1, 100);
            w.ask("rule", 0, 2100);
            w.is(0, "why");
            w.is(1, "step");
            w.is(1, "why");
        });
    }

    private static void whyTooHot(Edges edges) {
        edges.terms("HOT (100 to 10000; 3000 at first)", "100 and 10000 are allowed, one less and one more are not", w -> {
            w.is(3000, "rule", 1, 100);
            w.is(100, "rule", 1, 10000);
            w.refuses(-102, "rule", 1, 99);
            w.refuses(-102, "rule", 1, 10001);
            w.is(10000, "rule", 1, 3000);
        });
        edges.terms("2 WARMTH would be above HOT (100 to 10000; 3000 at first)", "the first WORK: 100 of 100, and 101", w -> {
            w.ask("rule", 1, 100);
            w.seat(1, 115);
            w.steps(3);
            w.is(0, "why");
            w.is(4, "step");
            w.is(100, "told", 1);
            w.is(2, "why");
            w.ask("build", 6);
            w.seat(1, 117);
            w.steps(3);
            w.is(2, "why");
            w.refuses(-103, "step");
            w.ask("rule", 1, 101);
            w.is(4, "step");
            w.is(101, "told", 1);
        });
        edges.terms("2 WARMTH would be above HOT (100 to 10000; 3000 at first)", "3000 holds at first, and 3001 is above it",
            w -> {
                warmTo2958(w);
                w.seat(1, 49);
                w.is(4, "stop", 4);
                w.is(3000, "told", 1);
                w.is(2, "why");
                Tried other = w.another();
                warmTo2958(other);
                other.seat(1, 50);
                other.is(3, "stop", 4);
                other.is(2958, "told", 1);
                other.is(2, "why");
            });
        edges.terms("2 WARMTH would be above HOT (100 to 10000; 3000 at first)", "10000 holds, and 10001 is above it", w -> {
            warmTo9396(w);
            w.seat(5, 139);
            w.is(4, "stop", 4);
            w.is(10000, "told", 1);
            Tried other = w.another();
            warmTo9396(other);
            other.seat(3, 140);
            other.seat(2, 138);
            other.is(696, "load", 0);
            other.is(3, "stop", 4);
            other.is(9396, "told", 1);
            other.is(2, "why");
        });
        edges.terms("2 WARMTH would be above HOT (100 to 10000; 3000 at first)", "also where it falls, but HOT was set lower",
            w -> {
                w.seat(1, 150);
                w.steps(5);
                w.is(260, "told", 1);
                w.ask("rule", 1, 239);
                w.is(2, "why");
                w.refuses(-103, "step");
                w.ask("rule", 1, 240);
                w.is(0, "why");
                w.is(0, "step");
            });
    }

    /** 34 times 87, without cooling; cabin 0 is at the door and empty. */
    private static void warmTo2958(Tried w) {
        w.ask("rule", 2, 0);
        w.seat(1, 100);
        w.steps(102);
        w.is(2958, "told", 1);
        w.is(1, "leave", 0);
    }

    /** 12 times 783, without cooling; cabin 0 is at the door and empty. */
    private static void warmTo9396(Tried w) {
        w.ask("rule", 0, 1000000);
        w.ask("rule", 1, 10000);
        w.ask("rule", 2, 0);
        w.seat(6, 150);
        w.steps(36);
        w.is(9396, "told", 1);
        w.is(6, "leave", 0);
    }

    private static void whyNoDrive(Edges edges) {
        edges.terms("3 it is to be driven, and THE DRIVE is gone", "gone, and there again", w -> {
            w.seat(1, 5);
            w.ask("drive", 0);
            w.is(3, "why");
            w.refuses(-103, "step");
            w.ask("drive", 1);
            w.is(0, "why");
            w.is(1, "step");
        });
        edges.terms("3 it is to be driven, and THE DRIVE is gone", "an empty wheel goes round without it", w -> {
            w.ask("drive", 0);
            w.is(60, "stop", 60);
        });
        edges.terms("3 it is to be driven, and THE DRIVE is gone", "down it goes without it, as far as to the door", w -> {
            w.seat(1, 50);
            w.steps(3);
            w.ask("drive", 0);
            w.is(3, "stop", 60);
            w.is(0, "told", 0);
            w.is(3, "why");
        });
    }

    private static void whyTheFirst(Edges edges) {
        edges.terms("the first of these", "1 and 3", w -> {
            w.seat(1, 100);
            w.ask("rule", 0, 8699);
            w.ask("drive", 0);
            w.is(1, "why");
        });
        edges.terms("the first of these", "1 and 2", w -> {
            w.seat(1, 150);
            w.steps(3);
            w.ask("rule", 1, 129);
            w.is(2, "why");
            w.ask("rule", 0, 13049);
            w.is(1, "why");
        });
        edges.terms("the first of these", "2 and 3, and then 1, 2 and 3", w -> {
            w.seat(1, 150);
            w.steps(6);
            w.is(240, "told", 1);
            w.ask("rule", 1, 219);
            w.ask("drive", 0);
            w.is(2, "why");
            w.ask("rule", 0, 13049);
            w.is(1, "why");
            w.ask("rule", 0, 13050);
            w.ask("rule", 1, 220);
            w.is(3, "why");
        });
    }

    // ---- promises 1 to 6

    private static void newObject(Edges edges) {
        edges.promise(1, "Six CABINS, nobody in them, nobody waits; THE DRIVE is there", "six", w -> {
            w.is(5, "cabin", 5, 3);
            w.is(-101, "cabin", 6, 3);
        });
        edges.promise(1, "nobody in them", "each cabin", w -> {
            for (int c = 0; c < 6; c++) {
                w.is(0, "load", c);
                w.is(0, "cabin", c, 0);
                w.is(0, "cabin", c, 1);
                w.is(0, "cabin", c, 2);
                w.is(-1, "inside", c, 0);
            }
            w.is(0, "told", 4);
        });
        edges.promise(1, "nobody waits", "the line is empty, and nobody came", w -> {
            w.is(-1, "waits", 0);
            w.is(0, "told", 5);
            w.is(0, "told", 7);
            w.is(-101, "party", 0, 0);
        });
        edges.promise(1, "THE DRIVE is there", "it is told, and it drives", w -> {
            w.is(1, "told", 8);
            w.seat(1, 50);
            w.is(1, "step");
        });
    }

    private static void build(Edges edges) {
        edges.promise(2, "n CABINS, all empty", "the fewest and the most, and between them", w -> {
            int[] row = {30, 6, 20, 10, 12, 6, 30};
            for (int n : row) {
                w.is(n, "build", n);
                w.is(0, "load", n - 1);
                w.is(-101, "load", n);
                w.is(n / 2, "told", 3);
                w.is(-1000, "arm", n);
            }
        });
        edges.promise(2, "OUTSIDE", "every n from -1 to 31 that is none of the five", w -> {
            Tried now = w;
            for (int n = -1; n <= 31; n++) {
                if (n % 12 == 0 && n > 0) {
                    now = w.another();
                }
                if (n != 6 && n != 10 && n != 12 && n != 20 && n != 30) {
                    now.refuses(-102, "build", n);
                }
            }
        });
        edges.promise(2, "OUTSIDE", "far off, and 32 bits at their ends", w -> {
            w.busy();
            for (int n : new int[] {-6, -30, 60, 36, 206, LOW, LOW + 6, HIGH}) {
                w.refuses(-102, "build", n);
            }
        });
    }

    private static void buildStartsAnew(Edges edges) {
        edges.promise(2, "all empty; who waits is gone, PARTIES are numbered from 0 again", "the same n again", w -> {
            w.busy();
            w.is(10, "build", 10);
            for (int c = 0; c < 10; c++) {
                w.is(0, "load", c);
                w.is(0, "cabin", c, 0);
                w.is(0, "cabin", c, 2);
                w.is(-1, "inside", c, 0);
                w.is(0, "lean", c);
            }
            w.is(-1, "waits", 0);
            w.is(0, "told", 4);
            w.is(0, "told", 5);
            w.is(0, "told", 7);
            w.is(-101, "party", 0, 0);
        });
        edges.promise(2, "PARTIES are numbered from 0 again", "nothing is left of those who had these numbers", w -> {
            w.busy();
            w.is(1, "party", 0, 4);
            w.is(1, "party", 3, 5);
            w.is(3, "party", 5, 2);
            w.is(10, "build", 10);
            for (int p = 0; p < 8; p++) {
                w.is(p, "come", 1, 20 + p, 150, 150, 0);
                int[] due = {1, 20 + p, 0, 100, 0, 0};
                for (int what = 0; what <= 5; what++) {
                    w.is(due[what], "party", p, what);
                }
            }
            w.is(-101, "party", 8, 0);
        });
        edges.promise(2, "TURN, WARMTH 0", "and STEPS too, as told(6) says", w -> {
            w.busy();
            w.is(10, "build", 10);
            w.is(0, "told", 0);
            w.is(0, "told", 1);
            w.is(0, "told", 2);
            w.is(5, "told", 3);
            w.is(0, "told", 6);
        });
        edges.promise(2, "NOTES, READINGS gone, GUESSES as at first", "also of cabins that it had before, and has again", w -> {
            w.ask("build", 30);
            w.ask("guess", 29, 1, 2);
            w.ask("guess", 5, 1, 2);
            w.ask("note", 0, 36);
            w.ask("read", 29, 2000000, 0);
            w.ask("build", 6);
            w.is(0, "fit", 5, 0);
            w.is(900, "fit", 5, 1);
            w.is(0, "up", 0, 1);
            w.is(0, "tear");
            w.is(0, "forget");
            w.is(1, "note", 1, 1);
            w.is(0, "up", 1, 0);
            w.is(1, "read", 0, 156600, 0);
            w.is(900, "fit", 1, 0);
            w.is(0, "fit", 5, 1);
            w.ask("build", 30);
            w.is(0, "fit", 29, 0);
            w.is(900, "fit", 29, 1);
            w.is(-1, "breaks");
        });
        edges.promise(2, "(BOUND and so on stay)", "each at an end of what it may be, and no drive", w -> {
            w.ask("rule", 0, 0);
            w.ask("rule", 1, 10000);
            w.ask("rule", 2, 500);
            w.ask("rule", 3, 1);
            w.ask("drive", 0);
            w.is(20, "build", 20);
            w.is(0, "rule", 0, 5);
            w.is(10000, "rule", 1, 500);
            w.is(500, "rule", 2, 5);
            w.is(1, "rule", 3, 5);
            w.is(0, "told", 8);
        });
    }

    private static void armAndTold(Edges edges) {
        edges.promise(3, "-1000: UNKNOWN", "one less, one more, and 32 bits at their ends", w -> {
            w.busy();
            w.is(-59, "arm", 9);
            for (int p : new int[] {-1, 10, LOW, HIGH}) {
                w.refuses(-1000, "arm", p);
            }
        });
        edges.promise(4, "What = 0 THE TURN", "the last turn, and 0 behind it", w -> {
            w.steps(5);
            w.is(5, "told", 0);
            w.steps(1);
            w.is(0, "told", 0);
        });
        edges.promise(4, "4 PERSONS up, 5 PERSONS who wait", "nobody, and a cabin and a line that are full", w -> {
            w.is(0, "told", 4);
            w.is(0, "told", 5);
            w.seat(6, 10);
            for (int i = 0; i < 30; i++) {
                w.ask("come", 6, 10, 10, 10, 0);
            }
            w.is(6, "told", 4);
            w.is(180, "told", 5);
        });
        edges.promise(4, "6 STEPS done since build()", "those alone that were done", w -> {
            w.is(0, "told", 6);
            w.steps(60);
            w.is(60, "told", 6);
            w.seat(1, 50);
            w.ask("drive", 0);
            w.is(-103, "step");
            w.is(0, "stop", 5);
            w.is(60, "told", 6);
            w.ask("build", 6);
            w.is(0, "told", 6);
        });
        edges.promise(4, "7 PARTIES come", "who was refused has not come, who is gone has", w -> {
            w.is(0, "told", 7);
            w.is(-102, "come", 7, 50, 50, 50, 0);
            w.is(0, "told", 7);
            w.is(0, "come", 6, 50, 50, 50, 0);
            w.is(0, "tire", 0);
            w.is(1, "told", 7);
        });
        edges.promise(4, "8 whether THE DRIVE is there (1, 0)", "there, gone, there", w -> {
            w.is(1, "told", 8);
            w.ask("drive", 0);
            w.is(0, "told", 8);
            w.ask("drive", 1);
            w.is(1, "told", 8);
        });
        edges.promise(4, "OUTSIDE", "-1, 9, and 32 bits at their ends", w -> {
            w.busy();
            for (int what : new int[] {-1, 9, LOW, HIGH}) {
                w.refuses(-102, "told", what);
            }
        });
    }

    private static void rules(Edges edges) {
        int[] first = {60000, 3000, 20, 5};
        int[] least = {0, 100, 0, 1};
        int[] most = {1000000, 10000, 500, 20};
        for (int i = 0; i < 4; i++) {
            int which = i;
            edges.promise(5, "BOUND (which = 0), HOT (1), COOLING (2), PATIENCE (3) becomes v: what it was",
                "the least and the most of " + which, w -> {
                    w.is(first[which], "rule", which, least[which]);
                    w.is(least[which], "rule", which, least[which]);
                    w.is(least[which], "rule", which, most[which]);
                    w.is(most[which], "rule", which, most[which]);
                    for (int other = 0; other < 4; other++) {
                        w.is(other == which ? most[other] : first[other], "rule", other, first[other]);
                    }
                });
            edges.promise(5, "UNKNOWN: which; OUTSIDE", "OUTSIDE: one less, one more, 32 bits' ends, of " + which, w -> {
                w.busy();
                for (int v : new int[] {least[which] - 1, most[which] + 1, LOW, HIGH}) {
                    w.refuses(-102, "rule", which, v);
                }
            });
        }
        edges.promise(5, "UNKNOWN: which; OUTSIDE", "UNKNOWN: -1, 4, and 32 bits at their ends", w -> {
            w.busy();
            for (int which : new int[] {-1, 4, LOW, HIGH}) {
                w.refuses(-101, "rule", which, 100);
            }
        });
        edges.promise(5, "UNKNOWN: which; OUTSIDE", "both: UNKNOWN is told first", w -> {
            w.busy();
            w.refuses(-101, "rule", 4, -1);
            w.refuses(-101, "rule", -1, 1000001);
            w.refuses(-101, "rule", HIGH, LOW);
            w.refuses(-101, "rule", LOW, HIGH);
        });
    }

    private static void drive(Edges edges) {
        edges.promise(6, "1 if it was there, else 0", "twice there, twice gone", w -> {
            w.is(1, "drive", 1);
            w.is(1, "drive", 0);
            w.is(0, "drive", 0);
            w.is(0, "drive", 1);
            w.is(1, "drive", 1);
        });
    }

    // ---- promises 7 to 15

    private static void leanGreatestWorst(Edges edges) {
        edges.promise(7, "-1000000001: UNKNOWN", "one less, one more, and 32 bits at their ends", w -> {
            w.busy();
            for (int r : new int[] {-1, 10, LOW, HIGH}) {
                w.refuses(-1000000001, "lean", r);
            }
        });
        edges.promise(7, "LEAN at a TURN", "the first and the last turn, whatever THE TURN is", w -> {
            w.lade(10, 0, 100);
            w.is(5900, "lean", 0);
            w.is(0, "lean", 9);
            w.steps(9);
            w.is(5900, "lean", 0);
            w.is(0, "lean", 9);
        });
        edges.promise(8, "GREATEST LEAN", "nobody, one of 5, and nobody again", w -> {
            w.is(0, "greatest");
            w.seat(1, 5);
            w.is(435, "greatest");
            w.is(1, "leave", 0);
            w.is(0, "greatest");
        });
        edges.promise(9, "The TURN with GREATEST LEAN, the least of like ones", "nobody: all are like, and it is 0",
            w -> eachSize(w, n -> {
                w.steps(n - 1);
                w.is(0, "worst");
            }));
        edges.promise(9, "The TURN with GREATEST LEAN, the least of like ones", "below 0 at the least of like ones", w -> {
            // LEAN is -870 at turns 1 and 2, and 870 at 4 and 5
            w.lade(6, 0, 0, 0, 10);
            w.is(-870, "lean", 1);
            w.is(870, "lean", 4);
            w.is(1, "worst");
        });
        edges.promise(9, "The TURN with GREATEST LEAN, the least of like ones", "0 is the one", w -> {
            w.lade(12, 0, 0, 0, 10);
            w.is(1000, "lean", 0);
            w.is(0, "worst");
        });
        edges.promise(9, "The TURN with GREATEST LEAN, the least of like ones", "the last that it may be, n by 2 less 1", w -> {
            w.lade(12, 0, 0, 0, 0, 10);
            w.is(1000, "lean", 11);
            w.is(-1000, "lean", 5);
            w.is(5, "worst");
        });
    }

    private static void loadCabinInside(Edges edges) {
        edges.promise(10, "UNKNOWN", "one less, one more, and 32 bits at their ends", w -> {
            w.busy();
            for (int c : new int[] {-1, 10, LOW, HIGH}) {
                w.refuses(-101, "load", c);
            }
        });
        edges.promise(10, "LOAD of a CABIN", "the first and the last", w -> {
            w.lade(6, 11, 0, 0, 0, 0, 12);
            w.is(11, "load", 0);
            w.is(0, "load", 1);
            w.is(12, "load", 5);
        });
        edges.promise(11, "PERSONS (what = 0), PARTIES (1) in a CABIN", "nobody, six as one, and six as six", w -> {
            w.is(0, "cabin", 0, 0);
            w.is(0, "cabin", 0, 1);
            w.seat(6, 10);
            w.is(6, "cabin", 0, 0);
            w.is(1, "cabin", 0, 1);
            w.steps(1);
            for (int i = 0; i < 6; i++) {
                w.seat(1, 10);
            }
            w.is(6, "cabin", 5, 0);
            w.is(6, "cabin", 5, 1);
        });
        edges.promise(11, "2 whether it is ALONE (1, 0)", "empty, SEE, ALONE, empty again, ALONE and SEE", w -> {
            w.is(0, "cabin", 0, 2);
            w.seat(1, 10, 2);
            w.is(0, "cabin", 0, 2);
            w.is(1, "leave", 0);
            w.seat(1, 10, 1);
            w.is(1, "cabin", 0, 2);
            w.is(1, "leave", 1);
            w.is(0, "cabin", 0, 2);
            w.seat(1, 10, 3);
            w.is(1, "cabin", 0, 2);
        });
        edges.promise(11, "3 its PLACE now", "past n less 1 to 0", w -> {
            w.is(5, "cabin", 5, 3);
            w.steps(1);
            w.is(0, "cabin", 5, 3);
            w.is(5, "cabin", 4, 3);
        });
        edges.promise(11, "UNKNOWN: c; OUTSIDE", "UNKNOWN: one less, one more, and 32 bits at their ends", w -> {
            w.busy();
            for (int c : new int[] {-1, 10, LOW, HIGH}) {
                w.refuses(-101, "cabin", c, 0);
            }
        });
        edges.promise(11, "UNKNOWN: c; OUTSIDE", "OUTSIDE: -1, 4, and 32 bits at their ends", w -> {
            w.busy();
            for (int what : new int[] {-1, 4, LOW, HIGH}) {
                w.refuses(-102, "cabin", 0, what);
            }
        });
        edges.promise(11, "UNKNOWN: c; OUTSIDE", "both: UNKNOWN is told first", w -> {
            w.busy();
            w.refuses(-101, "cabin", -1, 4);
            w.refuses(-101, "cabin", 10, -1);
            w.refuses(-101, "cabin", HIGH, LOW);
        });
        edges.promise(12, "The i-th PARTY in a CABIN, as they boarded; NONE", "the first, the sixth, and what lies beyond", w -> {
            for (int i = 0; i < 6; i++) {
                w.seat(1, 10);
            }
            w.is(0, "inside", 0, 0);
            w.is(5, "inside", 0, 5);
            for (int i : new int[] {-1, 6, LOW, HIGH}) {
                w.refuses(-1, "inside", 0, i);
            }
        });
        edges.promise(12, "The i-th PARTY in a CABIN, as they boarded; NONE", "nobody in it", w -> {
            w.refuses(-1, "inside", 0, 0);
            w.refuses(-1, "inside", 5, 0);
        });
        edges.promise(12, "as they boarded", "one in the middle is off, and one comes to it", w -> {
            for (int i = 0; i < 4; i++) {
                w.seat(1, 10);
            }
            w.is(1, "leave", 1);
            w.is(2, "inside", 0, 1);
            w.is(3, "inside", 0, 2);
            w.is(-1, "inside", 0, 3);
            w.seat(1, 10);
            w.is(4, "inside", 0, 3);
        });
        edges.promise(12, "UNKNOWN: c", "one less, one more, 32 bits' ends; ahead of NONE", w -> {
            w.busy();
            for (int c : new int[] {-1, 10, LOW, HIGH}) {
                w.refuses(-101, "inside", c, 0);
                w.refuses(-101, "inside", c, -1);
            }
        });
    }

    private static void stepAndWhy(Edges edges) {
        edges.promise(13, "A STEP: THE TURN", "the last turn, and 0 behind it", w -> eachSize(w, n -> {
            w.steps(n - 2);
            w.is(n - 1, "step");
            w.is(0, "step");
        }));
        edges.promise(13, "STATE: it is not done", "for each of the three reasons", w -> {
            w.seat(1, 150);
            w.ask("rule", 0, 0);
            w.refuses(-103, "step");
            w.ask("rule", 0, 60000);
            w.ask("drive", 0);
            w.refuses(-103, "step");
            w.ask("drive", 1);
            w.steps(3);
            w.ask("rule", 1, 100);
            w.refuses(-103, "step");
        });
        edges.promise(14, "WHY a STEP would not be done now: 1, 2, 3; 0: it would", "nobody up", w -> {
            w.refuses(0, "why");
            w.ask("rule", 0, 0);
            w.ask("drive", 0);
            w.refuses(0, "why");
        });
        edges.promise(14, "WHY a STEP would not be done now: 1, 2, 3; 0: it would", "it changes nothing, whatever it says", w -> {
            w.seat(1, 150);
            w.refuses(0, "why");
            w.ask("drive", 0);
            w.refuses(3, "why");
            w.ask("rule", 0, 13049);
            w.refuses(1, "why");
            w.ask("rule", 0, 13050);
            w.ask("drive", 1);
            w.steps(3);
            w.ask("rule", 1, 129);
            w.refuses(2, "why");
            w.ask("rule", 1, 130);
            w.refuses(0, "why");
        });
    }

    private static void stop(Edges edges) {
        edges.promise(15, "up to m STEPS (0 to 60) go", "0 and 60", w -> {
            w.is(0, "stop", 0);
            w.is(0, "told", 6);
            w.is(60, "stop", 60);
            w.is(60, "told", 6);
            w.is(1, "stop", 1);
            w.is(1, "told", 0);
        });
        edges.promise(15, "OUTSIDE", "-1, 61, and 32 bits at their ends", w -> {
            w.busy();
            for (int m : new int[] {-1, 61, LOW, HIGH}) {
                w.refuses(-102, "stop", m);
            }
        });
        edges.promise(15, "OUTSIDE", "it is no STOP: who is at the top has not seen", w -> {
            w.seat(1, 50);
            w.is(1, "step");
            w.is(2, "step");
            w.is(3, "step");
            w.refuses(-102, "stop", 61);
            w.refuses(-102, "stop", -1);
            w.is(0, "party", 0, 4);
        });
        edges.promise(15, "until one is not done: how many", "the first is not, the last is not", w -> {
            w.seat(1, 100);
            w.ask("drive", 0);
            w.is(0, "stop", 60);
            w.is(0, "told", 0);
            w.ask("drive", 1);
            w.ask("rule", 1, 174);
            w.is(9, "stop", 10);
            w.is(3, "told", 0);
            w.is(174 - 80, "told", 1);
            w.ask("build", 6);
            w.seat(1, 100);
            w.ask("rule", 1, 173);
            w.is(4, "stop", 5);
            w.is(4, "told", 0);
        });
        edges.promise(15, "one behind the other", "all the way round, past n less 1", w -> eachSize(w, n -> {
            w.steps(n - 1);
            w.is(2, "stop", 2);
            w.is(1, "told", 0);
        }));
    }

    private static void seen(Edges edges) {
        edges.terms("A PARTY has SEEN, if a STOP (see stop()) ended with its CABIN at the top while it was in it",
            "one place ahead of the top, at the top, one behind", w -> eachSize(w, n -> {
                w.seat(1, 10);
                w.seat(1, 10);
                w.steps(n / 2 - 1);
                w.is(0, "party", 0, 4);
                w.is(2, "stop", 2);
                w.is(0, "party", 0, 4);
                w.steps(n - 1);
                w.is(1, "party", 0, 4);
                w.is(1, "party", 1, 4);
            }));
        edges.promise(15, "PARTIES in the CABIN at the top then have SEEN", "nobody in it", w -> {
            w.seat(1, 10);
            w.is(0, "stop", 0);
            w.is(1, "stop", 1);
            w.is(0, "party", 0, 4);
        });
        edges.promise(15, "PARTIES in the CABIN at the top then have SEEN", "a STOP of 0 STEPS, and one that can't go", w -> {
            w.seat(1, 10);
            w.is(1, "step");
            w.is(2, "step");
            w.is(3, "step");
            w.is(0, "party", 0, 4);
            w.is(0, "stop", 0);
            w.is(1, "party", 0, 4);
            w.ask("build", 6);
            w.seat(1, 10);
            w.is(1, "step");
            w.is(2, "step");
            w.is(3, "step");
            w.ask("rule", 0, 0);
            w.is(0, "stop", 9);
            w.is(1, "party", 0, 4);
        });
        edges.promise(15, "PARTIES in the CABIN at the top then have SEEN", "six of them, who did not wish it too", w -> {
            for (int i = 0; i < 6; i++) {
                w.seat(1, 10, i % 2 == 0 ? 0 : 2);
            }
            w.steps(3);
            for (int p = 0; p < 6; p++) {
                w.is(1, "party", p, 4);
            }
        });
        edges.promise(15, "PARTIES in the CABIN at the top then have SEEN", "who got off ahead of it, or boards behind it", w -> {
            w.seat(1, 10);
            w.seat(1, 10);
            w.is(1, "leave", 0);
            w.steps(3);
            w.is(0, "party", 0, 4);
            w.is(1, "party", 1, 4);
            w.steps(3);
            w.seat(1, 10);
            w.is(0, "party", 2, 4);
        });
    }

    // ---- whole sentences, beside their edges

    private static void likeSteps(Edges edges) {
        String sentence = "THE WHEEL has CABINS 0 to n less 1 (n 6, 10, 12, 20 or 30; 6 at first) at like steps round the rim,"
            + " which has PLACES 0 to n less 1";
        for (int n : SIZES) {
            edges.terms(sentence, "each place has one cabin, and each STEP takes each one place on, n " + n, w -> {
                w.ask("build", n);
                for (int r : new int[] {0, 1, 2, n / 2, n - 1}) {
                    w.steps(r - (int) w.ask("told", 0));
                    for (int c = 0; c < n; c++) {
                        w.is((c + r) % n, "cabin", c, 3);
                    }
                }
            });
        }
        edges.terms(sentence, "the same load leans the same, one place on a turn later", w -> eachSize(w, n -> {
            w.seat(1, 10);
            for (int r = 0; r < n; r++) {
                w.is(10 * w.ask("arm", r), "lean", r);
            }
        }));
    }

    private static void armsMirrored(Edges edges) {
        edges.terms("ARM of a PLACE p: with q 60 p by n, and u how far q is from the nearest of 0, 30, 60 (0 to 15)",
            "as far from the door as from the top is alike, and the other half is below 0", w -> eachSize(w, n -> {
                for (int p = 1; p < n / 2; p++) {
                    long arm = w.ask("arm", p);
                    w.is(arm, "arm", n / 2 - p);
                    w.is(-arm, "arm", n - p);
                    w.that("arm(" + p + ") is above 0", arm > 0);
                }
            }));
        edges.promise(3, "ARM of a PLACE", "whatever THE TURN is, and whoever is up", w -> {
            int[] due = {0, 87, 87, 0, -87, -87};
            w.seat(6, 100);
            for (int r = 0; r < 6; r++) {
                for (int p = 0; p < 6; p++) {
                    w.is(due[p], "arm", p);
                }
                w.steps(1);
            }
        });
    }

    private static void notDone(Edges edges) {
        edges.terms("It is not done (WHY): 1 L without its sign is above BOUND; 2 WARMTH would be above HOT", "nothing is begun",
            w -> {
                w.seat(1, 100);
                w.steps(4);
                w.is(87, "told", 1);
                w.ask("rule", 1, 173);
                w.is(2, "why");
                w.refuses(-103, "step");
                w.ask("rule", 0, 8699);
                w.is(1, "why");
                w.refuses(-103, "step");
                w.is(4, "told", 0);
                w.is(87, "told", 1);
                w.is(4, "told", 6);
                w.ask("rule", 0, 8700);
                w.ask("rule", 1, 174);
                w.is(5, "step");
            });
    }

    private static void buildTellsN(Edges edges) {
        edges.promise(2, "GUESSES as at first (BOUND and so on stay): n", "also where it had n before, and where nothing goes on",
            w -> {
                w.busy();
                w.ask("rule", 0, 0);
                eachSize(w, n -> w.is(n, "build", n));
                w.is(0, "rule", 0, 0);
            });
    }

    private static void toldAtEachTurn(Edges edges) {
        edges.promise(4, "1 WARMTH, 2 the CABIN at THE DOOR, 3 that at the top", "at each turn of each wheel", w -> eachSize(w, n -> {
            w.seat(1, 100);
            long warmth = 0;
            for (int r = 1; r <= n; r++) {
                long lean = w.ask("lean", r % n);
                warmth = lean < 0 ? warmth - lean / 100 : Math.max(0, warmth - 20);
                w.steps(1);
                w.is(warmth, "told", 1);
            }
            w.is(0, "told", 2);
            w.is(n / 2, "told", 3);
        }));
        edges.promise(4, "2 the CABIN at THE DOOR, 3 that at the top", "they are at these places", w -> eachSize(w, n -> {
            for (int r = 0; r < 8; r++) {
                w.is(0, "cabin", (int) w.ask("told", 2), 3);
                w.is(n / 2, "cabin", (int) w.ask("told", 3), 3);
                w.steps(1);
            }
        }));
    }

    private static void driveAlone(Edges edges) {
        edges.promise(6, "THE DRIVE is there, or gone: 1 if it was there, else 0", "nothing else is other by it", w -> {
            w.busy();
            w.ask("rule", 0, 60000);
            long digest = w.ask("digest");
            w.is(0, "drive", 1);
            w.that("digest() tells it", w.ask("digest") != digest);
            w.is(1, "drive", 0);
            w.is(digest, "digest");
            w.is(0, "drive", 0);
            w.is(digest, "digest");
        });
    }

    private static void stopIsSteps(Edges edges) {
        edges.promise(15, "A STOP: up to m STEPS (0 to 60) go, one behind the other, until one is not done: how many",
            "as so many single ones", w -> {
                Tried other = w.another();
                w.lade(10, 30, 0, 40, 0, 0, 0, 77);
                other.lade(10, 30, 0, 40, 0, 0, 0, 77);
                for (int hot = 100; hot <= 250; hot += 25) {
                    w.ask("rule", 1, hot);
                    other.ask("rule", 1, hot);
                    int done = 0;
                    while (done < 9 && other.ask("step") != -103) {
                        done++;
                    }
                    // who is at the top sees by it
                    other.ask("stop", 0);
                    w.is(done, "stop", 9);
                    w.is(other.ask("digest"), "digest");
                }
            });
    }
}
