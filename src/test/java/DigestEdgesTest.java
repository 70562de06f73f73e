import java.math.BigInteger;

/** Edges of promise 40: digest. What is due is reckoned without wrapping, and cut to 64 bits at the end alone. */
public final class DigestEdgesTest {
    private BigInteger h = BigInteger.valueOf(211);

    public static void main(String[] args) {
        Edges edges = new Edges("DigestEdgesTest");
        wrapping(edges);
        wheelAndRules(edges);
        parties(edges);
        notesGuessesReadings(edges);
        everythingTaken(edges);
        onlyTells(edges);
        edges.end(40, 40);
    }

    /** Of a wheel that nothing was done with, up to where the parties begin. */
    private static DigestEdgesTest ofNew(int cabins, int partiesCome) {
        return new DigestEdgesTest().with(cabins, 0, 0, 0, partiesCome, 1, 60000, 3000, 20, 5);
    }

    private DigestEdgesTest with(long... numbers) {
        for (long number : numbers) {
            h = h.multiply(BigInteger.valueOf(31)).add(BigInteger.valueOf(number));
        }
        return this;
    }

    private DigestEdgesTest withGuesses(int cabins) {
        for (int c = 0; c < cabins; c++) {
            with(0, 900);
        }
        return this;
    }

    private void isOf(Tried w) {
        w.that("it is beyond 64 bits, before it is cut", h.bitLength() > 64);
        w.refuses(h.longValue(), "digest");
    }

    private static void wrapping(Edges edges) {
        edges.promise(40, "(as longs, wrapping)", "a new one: 22 numbers are more than 64 bits hold",
            w -> ofNew(6, 0).withGuesses(6).isOf(w));
        edges.promise(40, "(as longs, wrapping)", "thirty cabins", w -> {
            w.is(30, "build", 30);
            ofNew(30, 0).withGuesses(30).isOf(w);
        });
        edges.promise(40, "(as longs, wrapping)", "it falls out above 0, and below 0", w -> {
            boolean above = false;
            boolean below = false;
            for (int bound = 0; bound < 10; bound++) {
                w.ask("rule", 0, bound);
                long told = w.ask("digest");
                above |= told > 0;
                below |= told < 0;
                new DigestEdgesTest().with(6, 0, 0, 0, 0, 1, bound, 3000, 20, 5).withGuesses(6).isOf(w);
            }
            w.that("above 0 and below 0", above && below);
        });
        edges.promise(40, "h is 211, then for each of these numbers, in order, 31 times h, and it", "one less and one more", w -> {
            w.ask("rule", 3, 4);
            long less = w.ask("digest");
            w.ask("rule", 3, 5);
            long as = w.ask("digest");
            w.ask("rule", 3, 6);
            long more = w.ask("digest");
            long power = BigInteger.valueOf(31).pow(12).longValue();
            w.that("each is 31 to the 12th apart", as - less == power && more - as == power);
        });
    }

    private static void wheelAndRules(Edges edges) {
        edges.promise(40, "n; what told() tells for 0, 1, 6, 7, 8; BOUND, HOT, COOLING, PATIENCE", "none like another", w -> {
            w.is(12, "build", 12);
            w.ask("rule", 0, 999999);
            w.ask("rule", 1, 9999);
            w.ask("rule", 2, 7);
            w.ask("rule", 3, 19);
            w.seat(1, 50);
            w.steps(17);
            w.ask("drive", 0);
            int warmth = 25 + 43 + 50 + 43 + 25 - 6 * 7;
            new DigestEdgesTest().with(12, 5, warmth, 17, 1, 0, 999999, 9999, 7, 19).with(1, 50, 0, 0, 0, 0).with(0)
                .withGuesses(12).isOf(w);
        });
        edges.promise(40, "BOUND, HOT, COOLING, PATIENCE", "the least and the most of each", w -> {
            int[] least = {0, 100, 0, 1};
            int[] most = {1000000, 10000, 500, 20};
            for (int which = 0; which < 4; which++) {
                w.ask("rule", which, least[which]);
            }
            new DigestEdgesTest().with(6, 0, 0, 0, 0, 1, 0, 100, 0, 1).withGuesses(6).isOf(w);
            for (int which = 0; which < 4; which++) {
                w.ask("rule", which, most[which]);
            }
            new DigestEdgesTest().with(6, 0, 0, 0, 0, 1, 1000000, 10000, 500, 20).withGuesses(6).isOf(w);
        });
    }

    private static void parties(Edges edges) {
        edges.promise(40, "of each PARTY come what party() tells for 0 to 5", "waits, gone; the least and the most", w -> {
            w.ask("come", 1, 5, 150, 150, 0);
            w.ask("come", 6, 150, 150, 150, 3);
            w.is(0, "tire", 0);
            ofNew(6, 2).with(1, 5, 0, 101, 0, 0, 6, 900, 3, 100, 0, 0).with(1).withGuesses(6).isOf(w);
        });
        edges.promise(40, "of each PARTY come what party() tells for 0 to 5", "the last cabin, has seen, was passed over", w -> {
            w.steps(1);
            w.seat(5, 10, 2);
            w.ask("come", 2, 20, 20, 20, 0);
            w.ask("come", 1, 30, 30, 30, 0);
            w.is(2, "next");
            w.steps(3);
            new DigestEdgesTest().with(6, 4, 0, 4, 3, 1, 60000, 3000, 20, 5)
                .with(5, 50, 2, 5, 1, 0, 2, 40, 0, 100, 0, 1, 1, 30, 0, 5, 1, 0).with(1).with(0, 2).withGuesses(6).isOf(w);
        });
        edges.promise(40, "who waits, in order", "30, and not the one who went away", w -> {
            DigestEdgesTest due = ofNew(6, 31);
            for (int p = 0; p < 30; p++) {
                w.ask("come", 1, 10, 10, 10, 0);
            }
            w.is(7, "tire", 7);
            w.is(30, "come", 1, 10, 10, 10, 0);
            for (int p = 0; p <= 30; p++) {
                due.with(1, 10, 0, p == 7 ? 101 : 100, 0, 0);
            }
            for (int p = 0; p <= 30; p++) {
                due.with(p == 7 ? new long[0] : new long[] {p});
            }
            due.withGuesses(6).isOf(w);
        });
        edges.promise(40, "of each CABIN PARTIES in it", "by cabins, as they boarded; nobody, six, one", w -> {
            DigestEdgesTest due = new DigestEdgesTest().with(6, 1, 0, 1, 8, 1, 60000, 3000, 20, 5);
            for (int p = 0; p < 6; p++) {
                w.seat(1, 10);
            }
            w.is(1, "leave", 0);
            w.seat(1, 10);
            w.steps(1);
            w.seat(1, 10);
            for (int p = 0; p < 8; p++) {
                due.with(1, 10, 0, p == 0 ? 101 : p == 7 ? 5 : 0, 0, 0);
            }
            due.with(1, 2, 3, 4, 5, 6, 7).withGuesses(6).isOf(w);
        });
    }

    private static void notesGuessesReadings(Edges edges) {
        edges.promise(40, "of each NOTE sort, k", "the least and the most of each sort, in order", w -> {
            w.ask("note", 2, 0);
            w.ask("note", 1, 36);
            w.ask("note", 1, 0);
            w.ask("note", 0, 36);
            w.ask("note", 0, 0);
            ofNew(6, 0).with(2, 0, 1, 36, 1, 0, 0, 36, 0, 0).withGuesses(6).isOf(w);
            w.is(5, "tear");
            ofNew(6, 0).withGuesses(6).isOf(w);
        });
        edges.promise(40, "of each CABIN its GUESS low, high", "the first and the last; as guessed, not as narrowed", w -> {
            w.ask("guess", 0, 0, 0);
            w.ask("guess", 5, 900, 900);
            ofNew(6, 0).with(0, 0).withGuesses(4).with(900, 900).isOf(w);
            w.ask("read", 0, 87 * 900 * 2 - 87 * 900, 0);
            w.is(900, "fit", 1, 0);
            ofNew(6, 0).with(0, 0).withGuesses(4).with(900, 900).with(0, 78300, 0).isOf(w);
        });
        edges.promise(40, "of each READING r, v, miss", "v below 0, and each at its ends", w -> {
            w.ask("read", 5, -2000000, 100000);
            w.ask("read", 0, 2000000, 0);
            w.ask("read", 3, -1, 1);
            ofNew(6, 0).withGuesses(6).with(5, -2000000, 100000, 0, 2000000, 0, 3, -1, 1).isOf(w);
            w.is(3, "forget");
            ofNew(6, 0).withGuesses(6).isOf(w);
        });
    }

    private static void everythingTaken(Edges edges) {
        edges.promise(40, "for each of these numbers, in order", "200 came, 30 wait, 40 NOTES, 12 READINGS", w -> {
            DigestEdgesTest due = ofNew(6, 200);
            for (int p = 0; p < 200; p++) {
                w.ask("come", 6, 150, 150, 150, 3);
                if (p < 170) {
                    w.ask("tire", 0);
                }
                due.with(6, 900, 3, p < 170 ? 101 : 100, 0, 0);
            }
            for (int p = 170; p < 200; p++) {
                due.with(p);
            }
            for (int i = 0; i < 40; i++) {
                w.ask("note", i % 2, 36);
                due.with(i % 2, 36);
            }
            due.withGuesses(6);
            for (int i = 0; i < 12; i++) {
                w.ask("read", 5, -2000000, 100000);
                due.with(5, -2000000, 100000);
            }
            due.isOf(w);
        });
    }

    private static void onlyTells(Edges edges) {
        edges.promise(40, "h is 211", "it changes nothing, and is the same of another that did the same", w -> {
            w.busy();
            Tried other = w.another();
            other.busy();
            long told = w.ask("digest");
            w.refuses(told, "digest");
            other.refuses(told, "digest");
        });
    }
}
