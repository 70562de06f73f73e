/** 'What it is': the first sentence of the document, part by part, each in a ride of its own; and how long an object is used. */
public final class OverviewEdgesTest {
    private static final int[] SIZES = {6, 10, 12, 20, 30};

    public static void main(String[] args) {
        Edges edges = new Edges("OverviewEdgesTest");
        even(edges);
        leaned(edges);
        families(edges);
        emptied(edges);
        rolled(edges);
        noted(edges);
        read(edges);
        laterCalls(edges);
        edges.end();
    }

    /** Families of all kinds, the i-th always the same. */
    private static void comes(Tried w, int i, int wishes) {
        w.ask("come", 1 + i * 5 % 6, 5 + i * 37 % 146, 5 + i * 59 % 146, 5 + i * 83 % 146, wishes);
    }

    private static void even(Edges edges) {
        for (int n : SIZES) {
            edges.whatItIs("Cabins on a wheel: a ride that must stay even while it fills", "with " + n + " cabins, twice round",
                w -> {
                    w.ask("build", n);
                    w.ask("rule", 0, 30000);
                    w.ask("rule", 1, 10000);
                    w.ask("rule", 2, 500);
                    long boarded = 0;
                    for (int i = 0; i < 2 * n; i++) {
                        comes(w, i, i % 4);
                        boarded += w.ask("fill");
                        w.is(0, "why");
                        w.is(1, "stop", 1);
                        w.that("greatest() is at most BOUND", w.ask("greatest") <= 30000);
                    }
                    w.that(boarded + " boarded", boarded > 5);
                });
        }
    }

    private static void leaned(Edges edges) {
        edges.whatItIs("what leans it at each turn, the brake that warms, the drive that helps or is gone",
            "up with the drive, down by the brake", w -> {
                w.seat(1, 100);
                int[] leans = {0, 8700, 8700, 0, -8700, -8700};
                int[] warmths = {0, 0, 0, 0, 87, 174};
                for (int r = 0; r < 6; r++) {
                    w.is(leans[r], "lean", r);
                }
                w.ask("drive", 0);
                w.is(3, "why");
                w.is(-103, "step");
                w.ask("drive", 1);
                for (int r = 1; r < 6; r++) {
                    w.is(r, "step");
                    w.is(warmths[r], "told", 1);
                }
            });
    }

    private static void families(Edges edges) {
        String sentence = "families from a line into cabins so that no lean is ever too great, the wish for the top,"
            + " none to share with";
        edges.whatItIs(sentence, "no lean at any turn is beyond BOUND, whoever boards", w -> {
            w.ask("build", 10);
            w.ask("rule", 0, 9000);
            w.ask("rule", 1, 10000);
            for (int i = 0; i < 20; i++) {
                comes(w, i, i % 4);
                w.ask("fill");
                w.ask("stop", 3);
                for (int r = 0; r < 10; r++) {
                    w.that("lean(" + r + ")", Math.abs(w.ask("lean", r)) <= 9000);
                }
            }
        });
        edges.whatItIs(sentence, "who wished for the top has seen it, and shared with none", w -> {
            w.ask("come", 2, 60, 50, 50, 3);
            w.ask("come", 1, 40, 50, 50, 0);
            w.is(1, "fill");
            w.is(3, "stop", 3);
            w.is(1, "party", 0, 4);
            w.is(1, "fill");
            w.is(3, "party", 1, 3);
            w.is(1, "cabin", 0, 1);
            w.is(1, "cabin", 3, 1);
        });
    }

    private static void emptied(Edges edges) {
        edges.whatItIs("emptied in the order that leans least", "of all six orders of three cabins none costs less", w -> {
            w.lade(12, 0, 70, 0, 0, 20, 0, 0, 0, 90);
            int[][] orders = {{1, 4, 8}, {1, 8, 4}, {4, 1, 8}, {4, 8, 1}, {8, 1, 4}, {8, 4, 1}};
            long least = Long.MAX_VALUE;
            for (int[] order : orders) {
                least = Math.min(least, w.ask("cost", (order[0] * 30 + order[1]) * 30 + order[2]));
            }
            w.is(least, "order", 0);
            long best = 0;
            for (int i = 0; i < 3; i++) {
                best = best * 30 + w.ask("ordered", i);
            }
            w.is(least, "cost", (int) best);
        });
    }

    private static void rolled(Edges edges) {
        edges.whatItIs("rolled by its own weights when the drive is gone, and who is stranded", "one gets off, one stays up",
            w -> {
                w.seat(1, 50);
                w.steps(3);
                w.seat(2, 60);
                w.ask("drive", 0);
                w.is(0, "roll");
                w.is(1, "stranded");
                w.is(2, "letOut");
                w.is(3, "told", 0);
                w.is(1, "told", 4);
                w.is(-101, "leave", 0);
            });
    }

    private static void noted(Edges edges) {
        edges.whatItIs("who is still up, by notes with gaps", "so many as are up may be up, and begin with nobody", w -> {
            w.ask("rule", 0, 1000000);
            for (int i = 0; i < 12; i++) {
                boolean looked = i % 4 != 3;
                comes(w, i, 0);
                long before = w.ask("told", 4);
                w.ask("fill");
                long in = w.ask("told", 4) - before;
                w.is(2 * i + 1, "note", looked ? 0 : 2, looked ? (int) in : 0);
                long first = w.ask("inside", (int) w.ask("told", 2), 0);
                long out = i % 3 == 2 ? w.ask("leave", (int) first) : 0;
                w.is(2 * i + 2, "note", looked ? 1 : 2, looked ? (int) Math.max(0, out) : 0);
                long up = w.ask("told", 4);
                w.that(up + " may be up", w.ask("up", 0, 0) <= up && up <= w.ask("up", 0, 1));
                w.ask("stop", 1);
            }
        });
    }

    private static void read(Edges edges) {
        for (int n : SIZES) {
            edges.whatItIs("what loads may be, from leans that were read", "loads that are there are never narrowed away, n " + n,
                w -> {
                    w.lade(n, 0, 80, 5, 0, 150, 33);
                    for (int i = 1; i <= 12; i++) {
                        int r = i * 7 % n;
                        int off = i % 3 - 1;
                        w.is(i, "read", r, (int) w.ask("lean", r) + off * 200 * i, 200 * i);
                        w.is(-1, "breaks");
                        w.is(n, "agree");
                    }
                    for (int c = 0; c < n; c++) {
                        long load = w.ask("load", c);
                        w.that("load(" + c + ")", w.ask("fit", c, 0) <= load && load <= w.ask("fit", c, 1));
                    }
                });
        }
    }

    private static void laterCalls(Edges edges) {
        edges.whatItIs("what later calls answer is free", "but none throws, rule 7 of the language: 20000 calls of one object", w -> {
            EvenWheel x = new EvenWheel();
            long all = 0;
            for (int i = 0; i < 500; i++) {
                x.come(1 + i % 6, 50, 60, 70, i % 4);
                x.fill();
                x.stop(i % 61);
                all += x.told(i % 9) + x.party(i, i % 6) + x.order(i % 2) + x.ordered(i) + x.cost(i) + x.roll() + x.stranded();
                all += x.note(i % 3, i % 37) + x.up(i % 40, i % 2) + x.begins() + x.read(i % 6, i, i) + x.fit(i % 6, i % 2);
                all += x.breaks() + x.agree() + x.digest() + x.why() + x.greatest() + x.worst() + x.lean(i % 6) + x.arm(i % 6);
                all += x.leave(i) + x.tire(i % 30) + x.waits(i % 30) + x.may(i % 30) + x.next() + x.letOut() + x.step();
                all += x.rule(i % 4, i * 50) + x.drive(i % 2 == 0) + x.load(i % 6) + x.cabin(i % 6, i % 4) + x.inside(i % 6, 0);
                all += x.guess(i % 6, i, 900) + (i % 50 == 0 ? x.forget() + x.tear() : 0);
            }
            w.that("they answered", all != 0);
        });
    }
}
