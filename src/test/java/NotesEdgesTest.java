/** Edges of 'Terms' 4, NOTES, and of promises 30 to 33. */
public final class NotesEdgesTest {
    private static final int LOW = Integer.MIN_VALUE;
    private static final int HIGH = Integer.MAX_VALUE;
    private static final int[] SIZES = {6, 10, 12, 20, 30};

    public static void main(String[] args) {
        Edges edges = new Edges("NotesEdgesTest");
        notesAtMost(edges);
        sorts(edges);
        behindEachNote(edges);
        nobodyLooked(edges);
        note(edges);
        up(edges);
        begins(edges);
        tear(edges);
        eachNumberUp(edges);
        upFromEachBegin(edges);
        edges.end(30, 33);
    }

    private static void ups(Tried w, int begin, int least, int most) {
        w.is(least, "up", begin, 0);
        w.is(most, "up", begin, 1);
    }

    // ---- Terms

    private static void notesAtMost(Edges edges) {
        edges.terms("NOTES (40 at most, in order)", "the 40th is written, the 41st is not", w -> {
            for (int i = 1; i <= 40; i++) {
                w.is(i, "note", i % 2, i % 2);
            }
            w.refuses(-104, "note", 0, 1);
            w.refuses(-104, "note", 1, 0);
            w.refuses(-104, "note", 2, 0);
        });
        edges.terms("NOTES (40 at most, in order)", "the 40th counts", w -> {
            for (int i = 1; i <= 39; i++) {
                w.is(i, "note", 0, 0);
            }
            w.is(37, "begins");
            w.is(40, "note", 0, 36);
            ups(w, 0, 36, 36);
            ups(w, 1, -1, -1);
            w.is(1, "begins");
        });
        edges.terms("NOTES (40 at most, in order)", "36 in and 36 out are not 36 out and 36 in", w -> {
            w.is(1, "note", 0, 36);
            w.is(2, "note", 1, 36);
            ups(w, 0, 0, 0);
            ups(w, 36, -1, -1);
            w.is(2, "tear");
            w.is(1, "note", 1, 36);
            w.is(2, "note", 0, 36);
            ups(w, 0, -1, -1);
            ups(w, 36, 36, 36);
        });
    }

    private static void sorts(Edges edges) {
        edges.terms("so many came in (sort 0; 0 to 36), went out (1), or nobody looked (2)",
            "0 and 36 are allowed of sorts 0 and 1, one less and one more are not", w -> {
                w.is(1, "note", 0, 0);
                w.is(2, "note", 0, 36);
                w.is(3, "note", 1, 0);
                w.is(4, "note", 1, 36);
                w.refuses(-102, "note", 0, -1);
                w.refuses(-102, "note", 0, 37);
                w.refuses(-102, "note", 1, -1);
                w.refuses(-102, "note", 1, 37);
            });
        edges.terms("so many came in (sort 0; 0 to 36), went out (1), or nobody looked (2)",
            "sorts 0 and 2 are allowed, -1 and 3 are not", w -> {
                w.is(1, "note", 0, 0);
                w.is(2, "note", 2, 0);
                w.refuses(-102, "note", -1, 0);
                w.refuses(-102, "note", 3, 0);
            });
    }

    private static void behindEachNote(Edges edges) {
        edges.terms("if behind each NOTE 0 to 6 n are up", "6 n are, one more are not", w -> {
            for (int n : SIZES) {
                w.is(n, "build", n);
                w.is(1, "note", 0, 36);
                ups(w, 6 * n - 36, 6 * n, 6 * n);
                ups(w, 6 * n - 35, -1, -1);
                w.is(6 * n - 36 + 1, "begins");
            }
        });
        edges.terms("if behind each NOTE 0 to 6 n are up", "0 are, one less are not", w -> {
            for (int n : SIZES) {
                w.is(n, "build", n);
                w.is(1, "note", 1, 36);
                ups(w, 36, 0, 0);
                ups(w, 35, -1, -1);
                w.is(6 * n - 36 + 1, "begins");
            }
        });
        edges.terms("if behind each NOTE 0 to 6 n are up", "of one between too, though it would do at the end", w -> {
            w.is(1, "note", 0, 1);
            w.is(2, "note", 1, 2);
            ups(w, 36, -1, -1);
            ups(w, 35, 34, 34);
            ups(w, 1, 0, 0);
            ups(w, 0, -1, -1);
            w.is(35, "begins");
        });
        edges.terms("if behind each NOTE 0 to 6 n are up", "where nobody looked too", w -> {
            w.is(1, "note", 2, 0);
            w.is(2, "note", 0, 36);
            ups(w, 36, 36, 36);
            w.is(3, "note", 1, 36);
            ups(w, 0, 0, 0);
            ups(w, 36, 0, 0);
            w.is(37, "begins");
        });
        edges.terms("UP by them, from a number at the begin (0 to 6 n)", "0 and 6 n are allowed, one less and one more are not",
            w -> {
                for (int n : SIZES) {
                    w.is(n, "build", n);
                    ups(w, 0, 0, 0);
                    ups(w, 6 * n, 6 * n, 6 * n);
                    w.is(-102, "up", -1, 0);
                    w.is(-102, "up", -1, 1);
                    w.is(-102, "up", 6 * n + 1, 0);
                    w.is(-102, "up", 6 * n + 1, 1);
                }
            });
    }

    private static void nobodyLooked(Edges edges) {
        edges.terms("where nobody looked any number from 36 less to 36 more", "cut at 0 and at 6 n, and just not cut", w -> {
            w.ask("build", 30);
            w.is(1, "note", 2, 0);
            ups(w, 0, 0, 36);
            ups(w, 35, 0, 71);
            ups(w, 36, 0, 72);
            ups(w, 37, 1, 73);
            ups(w, 143, 107, 179);
            ups(w, 144, 108, 180);
            ups(w, 145, 109, 180);
            ups(w, 180, 144, 180);
        });
        edges.terms("where nobody looked any number from 36 less to 36 more", "twice, and five times: all of 180", w -> {
            w.ask("build", 30);
            w.is(1, "note", 2, 0);
            w.is(2, "note", 2, 0);
            ups(w, 0, 0, 72);
            ups(w, 90, 18, 162);
            w.is(3, "note", 2, 0);
            w.is(4, "note", 2, 0);
            ups(w, 0, 0, 144);
            w.is(5, "note", 2, 0);
            ups(w, 0, 0, 180);
            ups(w, 180, 0, 180);
            w.is(181, "begins");
        });
        edges.terms("where nobody looked any number from 36 less to 36 more", "36 more are enough, 37 are not", w -> {
            w.ask("build", 30);
            w.is(1, "note", 2, 0);
            w.is(2, "note", 1, 36);
            w.is(3, "note", 1, 36);
            ups(w, 36, 0, 0);
            ups(w, 35, -1, -1);
            w.is(145, "begins");
        });
        edges.terms("where nobody looked any number from 36 less to 36 more", "36 less are enough, 37 are not", w -> {
            w.ask("build", 30);
            w.is(1, "note", 2, 0);
            w.is(2, "note", 0, 36);
            w.is(3, "note", 0, 36);
            ups(w, 144, 180, 180);
            ups(w, 145, -1, -1);
            w.is(145, "begins");
        });
    }

    // ---- promises

    private static void note(Edges edges) {
        edges.promise(30, "OUTSIDE: sort, k (0 where nobody looked)", "of sort 2 k 0 alone", w -> {
            w.is(1, "note", 2, 0);
            for (int k : new int[] {-1, 1, 36, LOW, HIGH}) {
                w.refuses(-102, "note", 2, k);
            }
        });
        edges.promise(30, "OUTSIDE: sort, k (0 where nobody looked)", "32 bits at their ends", w -> {
            w.busy();
            for (int end : new int[] {LOW, HIGH}) {
                w.refuses(-102, "note", end, 0);
                w.refuses(-102, "note", 0, end);
                w.refuses(-102, "note", 1, end);
                w.refuses(-102, "note", end, end);
            }
        });
        edges.promise(30, "A NOTE: how many", "the first, the second, and the first anew", w -> {
            w.is(1, "note", 0, 36);
            w.is(2, "note", 0, 36);
            w.is(2, "tear");
            w.is(1, "note", 0, 36);
        });
        edges.promise(30, "OUTSIDE: sort, k (0 where nobody looked); FULL", "both: OUTSIDE is told first", w -> {
            for (int i = 1; i <= 40; i++) {
                w.is(i, "note", 2, 0);
            }
            w.refuses(-102, "note", 3, 0);
            w.refuses(-102, "note", -1, 0);
            w.refuses(-102, "note", 0, 37);
            w.refuses(-102, "note", 1, -1);
            w.refuses(-102, "note", 2, 1);
            w.refuses(-104, "note", 0, 36);
        });
    }

    private static void up(Edges edges) {
        edges.promise(31, "the least (side 0), the greatest (1)", "-1 and 2, and 32 bits at their ends, are no side", w -> {
            w.busy();
            w.is(0, "up", 0, 0);
            w.is(40, "up", 0, 1);
            for (int side : new int[] {-1, 2, LOW, HIGH}) {
                w.refuses(-102, "up", 0, side);
            }
        });
        edges.promise(31, "OUTSIDE", "the begin: -1, 6 n and one, and 32 bits at their ends", w -> {
            w.busy();
            for (int begin : new int[] {-1, 61, LOW, HIGH}) {
                w.refuses(-102, "up", begin, 0);
                w.refuses(-102, "up", begin, 1);
            }
        });
        edges.promise(31, "NONE: none may be", "for one begin, and for all", w -> {
            w.is(1, "note", 0, 36);
            w.refuses(-1, "up", 1, 0);
            w.refuses(-1, "up", 1, 1);
            w.is(36, "up", 0, 0);
            w.is(2, "note", 0, 1);
            w.refuses(-1, "up", 0, 0);
            w.refuses(-1, "up", 36, 1);
            w.is(3, "note", 2, 0);
            w.refuses(-1, "up", 0, 0);
        });
        edges.promise(31, "NONE: none may be. OUTSIDE", "both: it is refused", w -> {
            w.is(1, "note", 0, 36);
            w.is(2, "note", 0, 1);
            w.refuses(-102, "up", 37, 0);
            w.refuses(-102, "up", -1, 0);
            w.refuses(-102, "up", 0, 2);
            w.refuses(-102, "up", 0, -1);
        });
    }

    private static void begins(Edges edges) {
        edges.promise(32, "How many numbers at the begin are such that some number may be UP", "no NOTES: all, of each n", w -> {
            for (int n : SIZES) {
                w.is(n, "build", n);
                w.is(6 * n + 1, "begins");
            }
        });
        edges.promise(32, "How many numbers at the begin are such that some number may be UP", "all, one, none", w -> {
            w.is(1, "note", 1, 0);
            w.refuses(37, "begins");
            w.is(2, "note", 1, 36);
            w.refuses(1, "begins");
            w.is(3, "note", 1, 1);
            w.refuses(0, "begins");
        });
        edges.promise(32, "How many numbers at the begin are such that some number may be UP", "as many as up() has", w -> {
            w.ask("build", 6);
            w.ask("note", 0, 5);
            w.ask("note", 2, 0);
            w.ask("note", 1, 30);
            w.ask("note", 0, 36);
            w.ask("note", 1, 3);
            int some = 0;
            for (int begin = 0; begin <= 36; begin++) {
                some += w.ask("up", begin, 0) >= 0 ? 1 : 0;
            }
            w.is(some, "begins");
            w.is(32, "begins");
        });
    }

    private static void tear(Edges edges) {
        edges.promise(33, "No NOTES: how many there were", "none, 40, and none again", w -> {
            w.refuses(0, "tear");
            for (int i = 1; i <= 40; i++) {
                w.is(i, "note", 1, 36);
            }
            w.is(0, "begins");
            w.is(40, "tear");
            w.refuses(0, "tear");
            w.is(37, "begins");
            ups(w, 36, 36, 36);
        });
        edges.promise(33, "No NOTES", "nothing is left of those that were: others are written in their places", w -> {
            for (int i = 1; i <= 40; i++) {
                w.is(i, "note", 1, 36);
            }
            w.is(40, "tear");
            w.is(1, "note", 0, 3);
            ups(w, 0, 3, 3);
            w.is(2, "note", 2, 0);
            ups(w, 0, 0, 36);
            w.is(3, "note", 1, 1);
            ups(w, 0, 0, 35);
            for (int i = 4; i <= 40; i++) {
                w.is(i, "note", 1, 0);
            }
            w.refuses(-104, "note", 1, 0);
        });
    }

    // ---- whole sentences, beside their edges

    /** The NOTES that leave 0 to 33 from nobody: 5 came in, nobody looked, 3 went out. */
    private static void gap(Tried w) {
        w.ask("tear");
        w.ask("note", 0, 5);
        w.ask("note", 2, 0);
        w.ask("note", 1, 3);
    }

    private static void eachNumberUp(Edges edges) {
        edges.terms("UP by them, from a number at the begin (0 to 6 n): all numbers that may be up at the end, if behind each NOTE"
            + " 0 to 6 n are up, and where nobody looked any number from 36 less to 36 more",
            "each between the least and the greatest too, and none beyond", w -> {
                gap(w);
                ups(w, 0, 0, 33);
                for (int number = 0; number <= 36; number++) {
                    // so many go out and 36 come in: that may only be, if just so many were up
                    gap(w);
                    w.ask("note", 1, number);
                    w.ask("note", 0, 36);
                    w.ask("note", 1, 36 - number);
                    w.is(number <= 33 ? number : -1, "up", 0, 0);
                    w.is(number <= 33 ? number : -1, "up", 0, 1);
                }
            });
    }

    private static void upFromEachBegin(Edges edges) {
        edges.promise(31, "UP by NOTES, from a number at the begin: the least (side 0), the greatest (1)",
            "from each of 0 to 36, through in, out and a gap", w -> {
                w.is(1, "note", 0, 20);
                w.is(2, "note", 1, 12);
                for (int begin = 0; begin <= 36; begin++) {
                    int due = begin <= 16 ? begin + 8 : -1;
                    ups(w, begin, due, due);
                }
                w.is(3, "note", 2, 0);
                w.is(4, "note", 1, 30);
                for (int begin = 0; begin <= 36; begin++) {
                    ups(w, begin, begin <= 16 ? 0 : -1, begin <= 16 ? 6 : -1);
                }
            });
    }
}
