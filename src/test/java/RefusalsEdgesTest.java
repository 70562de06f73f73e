import java.util.LinkedHashMap;
import java.util.Map;
import java.util.function.Consumer;

/**
 * Every call that refuses, in many states: each refusal is answered, changes nothing, and is the first as told.
 * Refusals that only some states have (FULL, STATE, NONE) stand with their promises.
 */
public final class RefusalsEdgesTest {
    private static final String SENTENCE = "Refusals, of several the first as told by each call: UNKNOWN (a number names"
        + " nothing), OUTSIDE (it is not as told), STATE (as told), FULL; they change nothing";
    private static final int LOW = Integer.MIN_VALUE;
    private static final int HIGH = Integer.MAX_VALUE;
    private static final int UNKNOWN = -101;
    private static final int OUTSIDE = -102;

    /** What is due, and then the numbers of the call: of no wheel, however many cabins it has, are they right. */
    private static Map<String, int[][]> refusals() {
        Map<String, int[][]> all = new LinkedHashMap<>();
        all.put("build", new int[][] {{OUTSIDE, 0}, {OUTSIDE, -1}, {OUTSIDE, 31}, {OUTSIDE, LOW}, {OUTSIDE, HIGH}});
        all.put("arm", new int[][] {{-1000, -1}, {-1000, 30}, {-1000, LOW}, {-1000, HIGH}});
        all.put("told", new int[][] {{OUTSIDE, -1}, {OUTSIDE, 9}, {OUTSIDE, LOW}, {OUTSIDE, HIGH}});
        all.put("rule", new int[][] {{UNKNOWN, -1, 100}, {UNKNOWN, 4, 100}, {UNKNOWN, 4, -1}, {OUTSIDE, 0, -1},
            {OUTSIDE, 1, 99}, {OUTSIDE, 2, 501}, {OUTSIDE, 3, 0}, {UNKNOWN, LOW, HIGH}, {OUTSIDE, 3, HIGH}});
        all.put("lean", new int[][] {{-1000000001, -1}, {-1000000001, 30}, {-1000000001, LOW}, {-1000000001, HIGH}});
        all.put("load", new int[][] {{UNKNOWN, -1}, {UNKNOWN, 30}, {UNKNOWN, LOW}, {UNKNOWN, HIGH}});
        all.put("cabin", new int[][] {{UNKNOWN, -1, 0}, {UNKNOWN, 30, 3}, {UNKNOWN, 30, 4}, {UNKNOWN, LOW, LOW},
            {OUTSIDE, 0, -1}, {OUTSIDE, 5, 4}, {OUTSIDE, 0, HIGH}});
        all.put("inside", new int[][] {{UNKNOWN, -1, 0}, {UNKNOWN, 30, -1}, {UNKNOWN, LOW, LOW}, {UNKNOWN, HIGH, 6}});
        all.put("stop", new int[][] {{OUTSIDE, -1}, {OUTSIDE, 61}, {OUTSIDE, LOW}, {OUTSIDE, HIGH}});
        all.put("come", new int[][] {{OUTSIDE, 0, 50, 50, 50, 0}, {OUTSIDE, 7, 50, 50, 50, 0}, {OUTSIDE, 1, 4, 50, 50, 0},
            {OUTSIDE, 1, 50, 151, 50, 0}, {OUTSIDE, 1, 50, 50, 4, 0}, {OUTSIDE, 1, 50, 50, 50, 4},
            {OUTSIDE, HIGH, LOW, HIGH, LOW, HIGH}});
        all.put("may", new int[][] {{UNKNOWN, -1}, {UNKNOWN, 30}, {UNKNOWN, LOW}, {UNKNOWN, HIGH}});
        all.put("tire", new int[][] {{UNKNOWN, -1}, {UNKNOWN, 30}, {UNKNOWN, LOW}, {UNKNOWN, HIGH}});
        all.put("leave", new int[][] {{UNKNOWN, -1}, {UNKNOWN, 200}, {UNKNOWN, LOW}, {UNKNOWN, HIGH}});
        all.put("party", new int[][] {{UNKNOWN, -1, 0}, {UNKNOWN, 200, 5}, {UNKNOWN, 200, 6}, {UNKNOWN, LOW, HIGH}});
        all.put("order", new int[][] {{OUTSIDE, -1}, {OUTSIDE, 2}, {OUTSIDE, LOW}, {OUTSIDE, HIGH}});
        all.put("cost", new int[][] {{OUTSIDE, -1}, {OUTSIDE, 729000000}, {OUTSIDE, LOW}, {OUTSIDE, HIGH}});
        all.put("note", new int[][] {{OUTSIDE, -1, 0}, {OUTSIDE, 3, 0}, {OUTSIDE, 0, -1}, {OUTSIDE, 1, 37}, {OUTSIDE, 2, 1},
            {OUTSIDE, LOW, 0}, {OUTSIDE, 0, HIGH}});
        all.put("up", new int[][] {{OUTSIDE, -1, 0}, {OUTSIDE, 181, 0}, {OUTSIDE, 0, -1}, {OUTSIDE, 0, 2},
            {OUTSIDE, LOW, HIGH}, {OUTSIDE, HIGH, 1}, {OUTSIDE, 0, LOW}});
        all.put("guess", new int[][] {{UNKNOWN, -1, 0, 900}, {UNKNOWN, 30, 0, 900}, {UNKNOWN, 30, 5, 4}, {OUTSIDE, 0, -1, 0},
            {OUTSIDE, 0, 0, 901}, {OUTSIDE, 5, 5, 4}, {UNKNOWN, LOW, LOW, LOW}, {OUTSIDE, 0, HIGH, LOW}});
        all.put("read", new int[][] {{UNKNOWN, -1, 0, 0}, {UNKNOWN, 30, 0, 0}, {UNKNOWN, 30, 2000001, -1},
            {OUTSIDE, 0, -2000001, 0}, {OUTSIDE, 5, 0, 100001}, {UNKNOWN, HIGH, HIGH, HIGH}, {OUTSIDE, 0, LOW, LOW}});
        all.put("fit", new int[][] {{UNKNOWN, -1, 0}, {UNKNOWN, 30, 1}, {UNKNOWN, 30, 2}, {OUTSIDE, 0, -1}, {OUTSIDE, 5, 2},
            {UNKNOWN, LOW, LOW}, {OUTSIDE, 0, HIGH}});
        return all;
    }

    private static Map<String, Consumer<Tried>> states() {
        Map<String, Consumer<Tried>> all = new LinkedHashMap<>();
        all.put("a new wheel", w -> { });
        all.put("a wheel in use", Tried::busy);
        all.put("everything taken", RefusalsEdgesTest::crowd);
        all.put("thirty cabins, nothing left, no order any more", RefusalsEdgesTest::wearOut);
        all.put("who was up is let out", w -> {
            w.busy();
            w.ask("letOut");
        });
        return all;
    }

    /** 30 wait, six cabins have a load, 40 notes, 12 readings. */
    private static void crowd(Tried w) {
        w.ask("build", 6);
        w.ask("rule", 0, 1000000);
        for (int i = 0; i < 6; i++) {
            w.seat(6, 50 + i);
            w.steps(1);
        }
        for (int i = 0; i < 30; i++) {
            w.is(6 + i, "come", 1 + i % 6, 50, 60, 70, i % 4);
        }
        for (int i = 1; i <= 40; i++) {
            w.is(i, "note", i % 2, 5);
        }
        for (int i = 1; i <= 12; i++) {
            w.is(i, "read", i % 6, (int) w.ask("lean", i % 6), 100000);
        }
        w.ask("rule", 0, 60000);
    }

    private static void wearOut(Tried w) {
        w.ask("build", 30);
        w.seat(6, 60);
        w.steps(3);
        for (int i = 0; i < 30; i++) {
            w.ask("order", i % 2);
        }
        w.is(-103, "order", 0);
        w.is(1, "note", 0, 36);
        w.is(2, "note", 2, 0);
        w.is(1, "read", 0, 2000000, 0);
        w.is(0, "breaks");
        w.ask("drive", 0);
    }

    public static void main(String[] args) {
        Edges edges = new Edges("RefusalsEdgesTest");
        refusals().forEach((call, rows) -> states().forEach((state, into) ->
            edges.terms(SENTENCE, call + "(), " + state, w -> {
                into.accept(w);
                for (int[] row : rows) {
                    int[] numbers = new int[row.length - 1];
                    System.arraycopy(row, 1, numbers, 0, numbers.length);
                    w.refuses(row[0], call, numbers);
                }
            })));
        full(edges);
        state(edges);
        none(edges);
        edges.end();
    }

    private static void full(Edges edges) {
        edges.promise(16, "FULL: 30 wait, or 200 came", "with everything else taken too", w -> {
            crowd(w);
            w.refuses(-104, "come", 1, 5, 5, 5, 0);
            w.refuses(-104, "come", 6, 150, 150, 150, 3);
        });
        edges.promise(30, "FULL", "with everything else taken too", w -> {
            crowd(w);
            w.refuses(-104, "note", 0, 0);
            w.refuses(-104, "note", 1, 36);
            w.refuses(-104, "note", 2, 0);
        });
        edges.promise(35, "FULL", "with everything else taken too", w -> {
            crowd(w);
            w.refuses(-104, "read", 0, 0, 0);
            w.refuses(-104, "read", 5, -2000000, 100000);
        });
    }

    private static void state(Edges edges) {
        edges.promise(13, "STATE: it is not done", "the drive is gone, and there are riders and waiters", w -> {
            crowd(w);
            w.ask("drive", 0);
            while (w.ask("why") != 3 && w.ask("told", 6) < 20) {
                w.ask("step");
            }
            w.is(3, "why");
            w.refuses(-103, "step");
            w.refuses(0, "stop", 60);
        });
        edges.promise(24, "STATE: more than 6 have, or it was done 30 times with ordered()", "30 times, and one is up", w -> {
            wearOut(w);
            w.refuses(-103, "order", 0);
            w.refuses(-103, "order", 1);
        });
        edges.promise(25, "STATE, as order()", "30 times, and one is up: ahead of NONE", w -> {
            wearOut(w);
            w.refuses(-103, "ordered", 0);
            w.refuses(-103, "ordered", 1);
            w.refuses(-103, "ordered", -1);
        });
    }

    private static void none(Edges edges) {
        edges.promise(19, "NONE: there is none", "30 wait, and the cabin at the door is full", w -> {
            crowd(w);
            w.refuses(-1, "next");
            w.refuses(0, "fill");
        });
        edges.promise(31, "NONE: none may be", "thirty cabins: 145 and more can't take 36", w -> {
            wearOut(w);
            w.is(108, "up", 108, 0);
            w.is(144, "up", 144, 0);
            w.refuses(-1, "up", 145, 0);
            w.refuses(-1, "up", 180, 1);
            w.refuses(-102, "up", 181, 1);
        });
        edges.promise(37, "NONE: nothing is left", "of the last cabin of thirty, and the one beyond", w -> {
            wearOut(w);
            w.refuses(-1, "fit", 29, 0);
            w.refuses(-101, "fit", 30, 0);
            w.refuses(-1, "agree");
            w.refuses(0, "breaks");
        });
        edges.promise(17, "NONE", "30 wait: the last, and the one beyond", w -> {
            crowd(w);
            w.refuses(35, "waits", 29);
            w.refuses(-1, "waits", 30);
            w.refuses(-1, "waits", -1);
        });
        edges.promise(12, "NONE", "one party of six: the first, and the one beyond", w -> {
            crowd(w);
            w.refuses(0, "inside", 0, 0);
            w.refuses(-1, "inside", 0, 1);
        });
    }
}
