/** Edges of 'Terms' 4, GUESSES and READINGS, and of promises 34 to 39. */
public final class GuessesEdgesTest {
    private static final int LOW = Integer.MIN_VALUE;
    private static final int HIGH = Integer.MAX_VALUE;

    public static void main(String[] args) {
        Edges edges = new Edges("GuessesEdgesTest");
        fromLowToHigh(edges);
        twelveReadings(edges);
        atMostMissOff(edges);
        readingByReading(edges);
        wholeLoads(edges);
        loadsOfTheOthers(edges);
        nothingLeft(edges);
        guess(edges);
        read(edges);
        readRefusedTwice(edges);
        forget(edges);
        fit(edges);
        fitRefusedTwice(edges);
        breaks(edges);
        agree(edges);
        guessesStand(edges);
        narrowedLoadByLoad(edges);
        edges.end(34, 39);
    }

    private static void fits(Tried w, int c, int low, int high) {
        w.is(low, "fit", c, 0);
        w.is(high, "fit", c, 1);
    }

    /** Six cabins of which all but these are known to be empty. At turn 0 arms are 0, 87, 87, 0, -87, -87. */
    private static void only(Tried w, int... cabins) {
        for (int c = 0; c < 6; c++) {
            w.is(1, "guess", c, 0, 0);
        }
        for (int c : cabins) {
            w.is(1, "guess", c, 0, 900);
        }
    }

    private static void reads(Tried w, int r, int v, int miss) {
        w.ask("forget");
        w.is(1, "read", r, v, miss);
    }

    // ---- Terms

    private static void fromLowToHigh(Edges edges) {
        edges.terms("from low to high (0 to 900; 0 to 900 at first)", "0 to 900 at first, of each cabin", w -> {
            for (int n : new int[] {6, 30}) {
                w.is(n, "build", n);
                for (int c = 0; c < n; c++) {
                    fits(w, c, 0, 900);
                }
            }
        });
        edges.terms("from low to high (0 to 900; 0 to 900 at first)", "0 and 900 are allowed, one less and one more are not",
            w -> {
                w.is(1, "guess", 0, 0, 0);
                fits(w, 0, 0, 0);
                w.is(1, "guess", 0, 900, 900);
                fits(w, 0, 900, 900);
                w.is(1, "guess", 0, 0, 900);
                fits(w, 0, 0, 900);
                w.refuses(-102, "guess", 0, -1, 900);
                w.refuses(-102, "guess", 0, 0, 901);
                w.refuses(-102, "guess", 0, -1, -1);
                w.refuses(-102, "guess", 0, 901, 901);
                fits(w, 0, 0, 900);
            });
    }

    private static void twelveReadings(Edges edges) {
        edges.terms("READINGS (12 at most, in order)", "the 12th is taken, the 13th is not", w -> {
            for (int i = 1; i <= 12; i++) {
                w.is(i, "read", i % 6, 0, 100000);
            }
            w.refuses(-104, "read", 0, 0, 100000);
            w.refuses(-104, "read", 5, 2000000, 0);
            w.is(-1, "breaks");
        });
        edges.terms("READINGS (12 at most, in order)", "the 12th counts", w -> {
            for (int i = 1; i <= 11; i++) {
                w.is(i, "read", 0, 0, 100000);
            }
            w.is(-1, "breaks");
            w.is(12, "read", 0, 2000000, 0);
            w.is(11, "breaks");
        });
    }

    private static void atMostMissOff(Edges edges) {
        edges.terms("LEAN at a TURN was v, or at most MISS off", "as much off as MISS, and one more, on both sides", w -> {
            only(w, 1);
            w.is(1, "guess", 1, 100, 100);
            reads(w, 0, 8750, 50);
            w.is(-1, "breaks");
            reads(w, 0, 8750, 49);
            w.is(0, "breaks");
            reads(w, 0, 8650, 50);
            w.is(-1, "breaks");
            reads(w, 0, 8650, 49);
            w.is(0, "breaks");
        });
        edges.terms("LEAN at a TURN was v, or at most MISS off", "MISS 0 and MISS 100000", w -> {
            only(w, 1);
            reads(w, 0, 8700, 0);
            fits(w, 1, 100, 100);
            reads(w, 0, 8701, 0);
            w.is(0, "breaks");
            reads(w, 0, 178300, 100000);
            fits(w, 1, 900, 900);
            reads(w, 0, 178301, 100000);
            w.is(0, "breaks");
            reads(w, 0, -100000, 100000);
            fits(w, 1, 0, 0);
            reads(w, 0, -100001, 100000);
            w.is(0, "breaks");
        });
        edges.terms("LEAN at a TURN was v, or at most MISS off", "the TURN is the one that was read, the last one too", w -> {
            // at turn 5 cabin 0 has arm -87, cabin 2 has 87, cabin 1 none
            only(w, 2);
            reads(w, 5, 8700, 0);
            fits(w, 2, 100, 100);
            only(w, 0);
            fits(w, 0, -1, -1);
            reads(w, 5, -8700, 0);
            fits(w, 0, 100, 100);
            w.steps(3);
            fits(w, 0, 100, 100);
        });
    }

    private static void readingByReading(Edges edges) {
        edges.terms("READING by READING, for each of these CABIN 0, 1, .., by what the others may be now",
            "1 by what 2 was, 2 by what 1 is now", w -> {
                only(w);
                w.is(1, "guess", 1, 0, 10);
                w.is(1, "guess", 2, 0, 10);
                reads(w, 0, 87 * 18 + 40, 0);
                fits(w, 1, 9, 10);
                fits(w, 2, 9, 9);
                reads(w, 0, 87 * 2 + 40, 0);
                fits(w, 1, 0, 2);
                fits(w, 2, 1, 2);
            });
        edges.terms("READING by READING", "an earlier one is not looked at again", w -> {
            only(w, 1, 2);
            w.is(1, "read", 0, 87 * 100, 0);
            w.is(2, "read", 1, 87 * 30, 87 * 5);
            fits(w, 1, 25, 35);
            fits(w, 2, 0, 100);
            w.is(3, "read", 0, 87 * 100, 0);
            fits(w, 2, 65, 75);
        });
        edges.terms("READING by READING", "without any, they are as they were guessed", w -> {
            w.is(1, "guess", 5, 17, 18);
            fits(w, 5, 17, 18);
            w.is(-1, "breaks");
        });
    }

    private static void wholeLoads(Edges edges) {
        edges.terms("low and high become those of all whole LOADS between them", "an arm above 0: just not, just, and one more",
            w -> {
                only(w, 1);
                reads(w, 0, 8743, 42);
                w.is(0, "breaks");
                reads(w, 0, 8743, 43);
                fits(w, 1, 100, 100);
                reads(w, 0, 8743, 44);
                fits(w, 1, 100, 101);
                reads(w, 0, 8700, 86);
                fits(w, 1, 100, 100);
                reads(w, 0, 8700, 87);
                fits(w, 1, 99, 101);
            });
        edges.terms("low and high become those of all whole LOADS between them", "an arm below 0: just not, just, and one more",
            w -> {
                only(w, 4);
                reads(w, 0, -8743, 42);
                w.is(0, "breaks");
                reads(w, 0, -8743, 43);
                fits(w, 4, 100, 100);
                reads(w, 0, -8743, 44);
                fits(w, 4, 100, 101);
                reads(w, 0, -8700, 86);
                fits(w, 4, 100, 100);
                reads(w, 0, -8700, 87);
                fits(w, 4, 99, 101);
            });
        edges.terms("low and high become those of all whole LOADS between them", "between low and high alone", w -> {
            only(w);
            w.is(1, "guess", 1, 90, 110);
            reads(w, 0, 8700, 870);
            fits(w, 1, 90, 110);
            reads(w, 0, 8700, 870 - 1);
            fits(w, 1, 91, 109);
            reads(w, 0, 8700, 5000);
            fits(w, 1, 90, 110);
        });
        edges.terms("low and high become those of all whole LOADS between them", "0 and 900", w -> {
            only(w, 1);
            reads(w, 0, 0, 0);
            fits(w, 1, 0, 0);
            reads(w, 0, 78300, 0);
            fits(w, 1, 900, 900);
            reads(w, 0, -1, 0);
            w.is(0, "breaks");
            reads(w, 0, 78301, 0);
            w.is(0, "breaks");
            reads(w, 0, -1, 1);
            fits(w, 1, 0, 0);
            reads(w, 0, 78301, 1);
            fits(w, 1, 900, 900);
        });
        edges.terms("low and high become those of all whole LOADS between them", "an arm of 0 narrows nothing, or breaks", w -> {
            only(w, 0, 3);
            reads(w, 0, 0, 0);
            fits(w, 0, 0, 900);
            fits(w, 3, 0, 900);
            reads(w, 0, 1, 1);
            fits(w, 0, 0, 900);
            reads(w, 0, 1, 0);
            w.is(0, "breaks");
            reads(w, 0, -2, 1);
            w.is(0, "breaks");
            reads(w, 0, -1, 1);
            fits(w, 3, 0, 900);
        });
    }

    private static void loadsOfTheOthers(Edges edges) {
        edges.terms("with some (not only whole) LOADS of the others between theirs", "1 is no sum of whole ones, but does", w -> {
            only(w, 1, 4);
            reads(w, 0, 1, 0);
            fits(w, 1, 1, 900);
            fits(w, 4, 1, 899);
        });
        edges.terms("with some (not only whole) LOADS of the others between theirs", "at both ends of theirs, above 0 and below",
            w -> {
                only(w, 1);
                w.is(1, "guess", 2, 100, 150);
                w.is(1, "guess", 4, 20, 30);
                // from 87 times (100 less 30) to 87 times (150 less 20), and cabin 1
                reads(w, 0, 87 * 200, 0);
                fits(w, 1, 70, 130);
                fits(w, 2, 100, 150);
                fits(w, 4, 20, 30);
                reads(w, 0, 87 * 130, 0);
                fits(w, 1, 0, 60);
                reads(w, 0, 87 * 70, 0);
                fits(w, 1, 0, 0);
                fits(w, 2, 100, 100);
                fits(w, 4, 30, 30);
                reads(w, 0, 87 * 70 - 1, 0);
                w.is(0, "breaks");
            });
        edges.terms("with some (not only whole) LOADS of the others between theirs", "all of thirty, as great as may be", w -> {
            w.ask("build", 30);
            reads(w, 0, 856800, 0);
            fits(w, 0, 0, 900);
            fits(w, 1, 900, 900);
            fits(w, 14, 900, 900);
            fits(w, 15, 0, 900);
            fits(w, 16, 0, 0);
            fits(w, 29, 0, 0);
            reads(w, 0, 856801, 0);
            w.is(0, "breaks");
            reads(w, 0, -856800, 0);
            fits(w, 1, 0, 0);
            fits(w, 29, 900, 900);
            reads(w, 0, -856801, 0);
            w.is(0, "breaks");
            reads(w, 0, 956800, 100000);
            fits(w, 1, 900, 900);
            reads(w, 0, 956801, 100000);
            w.is(0, "breaks");
        });
    }

    private static void nothingLeft(Edges edges) {
        edges.terms("if there is no such, nothing is left", "of a cabin that is not looked at first", w -> {
            // for cabin 1 some load of 2 would do, but none that is whole
            only(w);
            w.is(1, "guess", 1, 3, 3);
            w.is(1, "guess", 2, 0, 1);
            reads(w, 0, 3 * 87 + 40, 0);
            fits(w, 1, -1, -1);
            fits(w, 0, -1, -1);
            w.is(0, "breaks");
            w.is(-1, "agree");
        });
        edges.terms("if there is no such, nothing is left", "of no cabin, though later readings would do", w -> {
            only(w, 1);
            w.is(1, "read", 0, 1, 0);
            w.is(2, "read", 0, 8700, 0);
            for (int c = 0; c < 6; c++) {
                fits(w, c, -1, -1);
            }
            w.is(0, "breaks");
            w.is(2, "forget");
            w.is(1, "read", 0, 8700, 0);
            fits(w, 1, 100, 100);
        });
    }

    // ---- promises

    private static void guess(Edges edges) {
        edges.promise(34, "OUTSIDE: 0 to 900, low at most high", "low is high, and one above", w -> {
            w.is(1, "guess", 0, 450, 450);
            fits(w, 0, 450, 450);
            w.refuses(-102, "guess", 0, 451, 450);
            w.refuses(-102, "guess", 0, 900, 0);
            w.refuses(-102, "guess", 0, 1, 0);
        });
        edges.promise(34, "OUTSIDE: 0 to 900, low at most high", "32 bits at their ends", w -> {
            w.busy();
            w.refuses(-102, "guess", 0, LOW, 900);
            w.refuses(-102, "guess", 0, 0, HIGH);
            w.refuses(-102, "guess", 0, LOW, HIGH);
            w.refuses(-102, "guess", 0, HIGH, LOW);
            w.refuses(-102, "guess", 0, LOW, LOW);
            w.refuses(-102, "guess", 0, HIGH, HIGH);
        });
        edges.promise(34, "GUESS of a CABIN: from low to high: 1", "the first and the last, and wider than it was", w -> {
            w.is(1, "guess", 0, 5, 6);
            w.is(1, "guess", 5, 7, 8);
            fits(w, 0, 5, 6);
            fits(w, 5, 7, 8);
            fits(w, 1, 0, 900);
            w.is(1, "guess", 5, 0, 900);
            fits(w, 5, 0, 900);
        });
        edges.promise(34, "UNKNOWN; OUTSIDE", "UNKNOWN: -1, n, and 32 bits at their ends", w -> {
            w.busy();
            for (int c : new int[] {-1, 10, LOW, HIGH}) {
                w.refuses(-101, "guess", c, 0, 900);
            }
        });
        edges.promise(34, "UNKNOWN; OUTSIDE", "both: UNKNOWN is told first", w -> {
            w.busy();
            w.refuses(-101, "guess", 10, -1, 900);
            w.refuses(-101, "guess", -1, 5, 4);
            w.refuses(-101, "guess", HIGH, LOW, HIGH);
        });
    }

    private static void read(Edges edges) {
        edges.promise(35, "OUTSIDE: v is not -2000000 to 2000000", "both ends are allowed, one beyond each is not", w -> {
            w.is(1, "read", 0, -2000000, 100000);
            w.is(2, "read", 0, 2000000, 100000);
            w.refuses(-102, "read", 0, -2000001, 0);
            w.refuses(-102, "read", 0, 2000001, 0);
            w.refuses(-102, "read", 0, LOW, 0);
            w.refuses(-102, "read", 0, HIGH, 0);
        });
        edges.promise(35, "miss not 0 to 100000", "both ends are allowed, one beyond each is not", w -> {
            w.is(1, "read", 0, 0, 0);
            w.is(2, "read", 0, 0, 100000);
            w.refuses(-102, "read", 0, 0, -1);
            w.refuses(-102, "read", 0, 0, 100001);
            w.refuses(-102, "read", 0, 0, LOW);
            w.refuses(-102, "read", 0, 0, HIGH);
        });
        edges.promise(35, "UNKNOWN: r", "0 and n less 1 are known; -1, n, and 32 bits at their ends are not", w -> {
            w.busy();
            w.is(3, "read", 0, 0, 100000);
            w.is(4, "read", 9, 0, 100000);
            for (int r : new int[] {-1, 10, LOW, HIGH}) {
                w.refuses(-101, "read", r, 0, 0);
            }
        });
        edges.promise(35, "A READING: how many", "the first, the second, and the first anew", w -> {
            w.is(1, "read", 0, 0, 0);
            w.is(2, "read", 0, 0, 0);
            w.is(2, "forget");
            w.is(1, "read", 0, 0, 0);
        });
    }

    private static void readRefusedTwice(Edges edges) {
        edges.promise(35, "UNKNOWN: r; OUTSIDE", "both: UNKNOWN is told first", w -> {
            w.busy();
            w.refuses(-101, "read", 10, 2000001, 0);
            w.refuses(-101, "read", -1, 0, -1);
            w.refuses(-101, "read", LOW, HIGH, LOW);
        });
        edges.promise(35, "OUTSIDE: v is not -2000000 to 2000000, miss not 0 to 100000; FULL",
            "12 are taken: UNKNOWN and OUTSIDE are told first", w -> {
                for (int i = 1; i <= 12; i++) {
                    w.is(i, "read", 0, 0, 0);
                }
                w.refuses(-101, "read", 6, 0, 0);
                w.refuses(-101, "read", -1, 2000001, -1);
                w.refuses(-102, "read", 0, 2000001, 0);
                w.refuses(-102, "read", 0, 0, 100001);
                w.refuses(-104, "read", 0, 0, 0);
            });
    }

    private static void forget(Edges edges) {
        edges.promise(36, "No READINGS: how many there were", "none, 12, and none again; GUESSES stay", w -> {
            w.refuses(0, "forget");
            w.is(1, "guess", 1, 10, 20);
            for (int i = 1; i <= 12; i++) {
                w.is(i, "read", 0, 2000000, 0);
            }
            w.is(0, "breaks");
            w.is(12, "forget");
            w.refuses(0, "forget");
            w.is(-1, "breaks");
            fits(w, 1, 10, 20);
        });
        edges.promise(36, "No READINGS", "nothing is left of those that were: others are taken in their places", w -> {
            only(w, 1);
            for (int i = 1; i <= 12; i++) {
                w.is(i, "read", 5, 2000000, 100000);
            }
            w.is(12, "forget");
            for (int i = 1; i <= 12; i++) {
                w.is(i, "read", 0, 8700, 87 * (13 - i));
                fits(w, 1, 100 - 13 + i, 100 + 13 - i);
            }
            w.refuses(-104, "read", 0, 8700, 0);
        });
    }

    private static void fit(Edges edges) {
        edges.promise(37, "UNKNOWN: c; OUTSIDE", "UNKNOWN: 0 and n less 1 are known; -1, n, and 32 bits' ends are not", w -> {
            w.busy();
            w.that("fit(9, 0)", w.ask("fit", 9, 0) >= 300);
            for (int c : new int[] {-1, 10, LOW, HIGH}) {
                w.refuses(-101, "fit", c, 0);
                w.refuses(-101, "fit", c, 1);
            }
        });
        edges.promise(37, "UNKNOWN: c; OUTSIDE", "OUTSIDE: -1 and 2, and 32 bits at their ends", w -> {
            w.busy();
            for (int side : new int[] {-1, 2, LOW, HIGH}) {
                w.refuses(-102, "fit", 0, side);
            }
        });
        edges.promise(37, "UNKNOWN: c; OUTSIDE", "both: UNKNOWN is told first", w -> {
            w.busy();
            w.refuses(-101, "fit", 10, 2);
            w.refuses(-101, "fit", -1, -1);
            w.refuses(-101, "fit", HIGH, LOW);
        });
        edges.promise(37, "NARROWED: low (side 0), high (1) of a CABIN", "it changes nothing: GUESSES stay", w -> {
            only(w, 1);
            w.is(1, "read", 0, 8700, 0);
            w.refuses(100, "fit", 1, 0);
            w.refuses(100, "fit", 1, 1);
            w.is(1, "forget");
            fits(w, 1, 0, 900);
        });
        edges.promise(37, "NONE: nothing is left", "of each cabin and side", w -> {
            w.is(1, "read", 0, 2000000, 0);
            for (int c = 0; c < 6; c++) {
                w.refuses(-1, "fit", c, 0);
                w.refuses(-1, "fit", c, 1);
            }
        });
    }

    private static void fitRefusedTwice(Edges edges) {
        edges.promise(37, "NONE: nothing is left. UNKNOWN: c; OUTSIDE", "both: it is refused", w -> {
            w.is(1, "read", 0, 2000000, 0);
            w.refuses(-101, "fit", 6, 0);
            w.refuses(-101, "fit", -1, 1);
            w.refuses(-102, "fit", 0, 2);
            w.refuses(-102, "fit", 5, -1);
            w.refuses(-101, "fit", 6, 2);
        });
    }

    private static void breaks(Edges edges) {
        edges.promise(38, "The READING (0, 1, ..) at which nothing is left; NONE: something is, at the end",
            "none read, the first, the 12th", w -> {
                w.refuses(-1, "breaks");
                for (int i = 1; i <= 11; i++) {
                    w.is(i, "read", 0, 0, 0);
                    w.is(-1, "breaks");
                }
                w.is(12, "read", 0, 78300 * 2 + 1, 0);
                w.refuses(11, "breaks");
                w.is(12, "forget");
                w.is(1, "read", 0, 78300 * 2 + 1, 0);
                w.refuses(0, "breaks");
            });
        edges.promise(38, "The READING (0, 1, ..) at which nothing is left; NONE: something is, at the end",
            "the first of two at which it is so", w -> {
                w.is(1, "read", 0, 0, 0);
                w.is(2, "read", 0, 2000000, 0);
                w.is(3, "read", 0, -2000000, 0);
                w.is(1, "breaks");
            });
    }

    private static void agree(Edges edges) {
        edges.promise(39, "How many CABINS have LOADS as they are now within what is NARROWED", "at low and at high, one beyond",
            w -> {
                w.seat(1, 100);
                int[][] guesses = {{100, 100, 6}, {100, 900, 6}, {0, 100, 6}, {101, 900, 5}, {0, 99, 5}};
                for (int[] guess : guesses) {
                    w.is(1, "guess", 0, guess[0], guess[1]);
                    w.refuses(guess[2], "agree");
                }
            });
        edges.promise(39, "How many CABINS have LOADS as they are now within what is NARROWED", "none, all, of thirty", w -> {
            w.ask("build", 30);
            w.is(30, "agree");
            for (int c = 0; c < 30; c++) {
                w.is(1, "guess", c, 1, 900);
                w.is(29 - c, "agree");
            }
        });
        edges.promise(39, "How many CABINS have LOADS as they are now within what is NARROWED", "an empty wheel and a full cabin",
            w -> {
                w.ask("rule", 0, 1000000);
                w.seat(6, 150);
                w.is(6, "agree");
                w.is(1, "guess", 0, 900, 900);
                w.is(6, "agree");
                w.is(1, "guess", 0, 0, 899);
                w.is(5, "agree");
            });
        edges.promise(39, "within what is NARROWED", "within the GUESS, but not within what is NARROWED by a READING", w -> {
            w.seat(1, 100);
            only(w, 0);
            w.is(1, "read", 1, 99 * 87, 0);
            w.is(99, "fit", 0, 1);
            w.is(5, "agree");
            w.is(1, "forget");
            w.is(6, "agree");
        });
        edges.promise(39, "NONE: nothing is left", "also where all would be within the GUESSES", w -> {
            w.is(6, "agree");
            w.is(1, "read", 0, 2000000, 0);
            w.refuses(-1, "agree");
        });
    }

    // ---- whole sentences, beside their edges

    private static void guessesStand(Edges edges) {
        edges.terms("GUESSES: LOAD of each CABIN from low to high (0 to 900; 0 to 900 at first)",
            "each for itself, whatever the LOADS are", w -> {
                w.ask("build", 12);
                w.seat(3, 100);
                for (int c = 0; c < 12; c++) {
                    w.is(1, "guess", c, 10 * c, 900 - c);
                }
                for (int c = 0; c < 12; c++) {
                    fits(w, c, 10 * c, 900 - c);
                }
                w.is(300, "load", 0);
                w.is(1, "agree");
            });
    }

    private static void narrowedLoadByLoad(Edges edges) {
        String sentence = "NARROWED: READING by READING, for each of these CABIN 0, 1, .., by what the others may be now: low and"
            + " high become those of all whole LOADS between them by which, with some (not only whole) LOADS of the others between"
            + " theirs, LEAN at that TURN is as read; if there is no such, nothing is left.";
        int[][] misses = {{0, 0}, {30, 0}, {0, 120}, {75, 75}};
        for (int[] miss : misses) {
            edges.terms(sentence, "two readings of two cabins, load by load, MISS " + miss[0] + " and " + miss[1], w -> {
                w.ask("build", 12);
                for (int c = 0; c < 12; c++) {
                    w.is(1, "guess", c, 0, 0);
                }
                w.is(1, "guess", 1, 2, 9);
                w.is(1, "guess", 8, 1, 7);
                // arms of 1 and 8: 50 and -87 at TURN 0, 87 and -100 at TURN 1
                for (int v = -600; v <= 400; v += 77) {
                    int[] due = {2, 9, 1, 7};
                    boolean some = narrow(due, 50, -87, v, miss[0]) && narrow(due, 87, -100, v + 200, miss[1]);
                    w.is(1, "read", 0, v, miss[0]);
                    w.is(2, "read", 1, v + 200, miss[1]);
                    fits(w, 1, some ? due[0] : -1, some ? due[1] : -1);
                    fits(w, 8, some ? due[2] : -1, some ? due[3] : -1);
                    w.is(some ? 0 : -1, "fit", 11, 0);
                    w.is(2, "forget");
                }
            });
        }
    }

    /** Two cabins, low and high of the one and then of the other, by each whole load of theirs; false: nothing is left. */
    private static boolean narrow(int[] lowHigh, int armOfOne, int armOfOther, int v, int miss) {
        for (int one = 0; one < 4; one += 2) {
            int other = 2 - one;
            int arm = one == 0 ? armOfOne : armOfOther;
            int armBeside = one == 0 ? armOfOther : armOfOne;
            int low = -1;
            int high = -1;
            for (int load = lowHigh[one]; load <= lowHigh[one + 1]; load++) {
                int atLow = load * arm + lowHigh[other] * armBeside;
                int atHigh = load * arm + lowHigh[other + 1] * armBeside;
                if (Math.max(atLow, atHigh) >= v - miss && Math.min(atLow, atHigh) <= v + miss) {
                    low = low < 0 ? load : low;
                    high = load;
                }
            }
            if (low < 0) {
                return false;
            }
            lowHigh[one] = low;
            lowHigh[one + 1] = high;
        }
        return true;
    }
}
