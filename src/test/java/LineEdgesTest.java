/** Edges of 'Terms' 2, PARTIES and THE LINE, and of promises 16 to 23. */
public final class LineEdgesTest {
    private static final int LOW = Integer.MIN_VALUE;
    private static final int HIGH = Integer.MAX_VALUE;

    public static void main(String[] args) {
        Edges edges = new Edges("LineEdgesTest");
        howMany(edges);
        cabinHoldsSix(edges);
        mayBoardByAlone(edges);
        mayBoardByBound(edges);
        theNext(edges);
        patience(edges);
        passedOver(edges);
        mayLeave(edges);
        come(edges);
        comeFull(edges);
        waitsAndMay(edges);
        nextAndFill(edges);
        tire(edges);
        leave(edges);
        party(edges);
        partyIsWhere(edges);
        wishes(edges);
        mayBoardIfAll(edges);
        nextOfThree(edges);
        eachMayLeaveByItself(edges);
        tellsOfAParty(edges);
        edges.end(16, 23);
    }

    private static void waiting(Tried w, int many) {
        for (int i = 0; i < many; i++) {
            w.ask("come", 1, 10, 10, 10, 0);
        }
    }

    // ---- Terms

    private static void howMany(Edges edges) {
        edges.terms("30 at most wait in THE LINE", "the 30th waits, the 31st does not", w -> {
            waiting(w, 29);
            w.is(29, "come", 1, 10, 10, 10, 0);
            w.is(29, "waits", 29);
            w.refuses(-104, "come", 1, 10, 10, 10, 0);
            w.is(-1, "waits", 30);
        });
        edges.terms("PARTIES (200 at most in all, numbered as they come", "the 200th is 199, the 201st does not come", w -> {
            for (int p = 0; p < 199; p++) {
                w.is(p, "come", 1, 10, 10, 10, 0);
                w.is(p, "tire", 0);
            }
            w.is(199, "come", 1, 10, 10, 10, 0);
            w.is(199, "waits", 0);
            w.is(200, "told", 7);
            w.refuses(-104, "come", 1, 10, 10, 10, 0);
            w.is(200, "told", 7);
            w.is(-101, "party", 200, 0);
        });
        edges.terms("are of 1 to 6 PERSONS", "1 and 6 come, 0 and 7 do not", w -> {
            w.is(0, "come", 1, 10, 10, 10, 0);
            w.is(1, "party", 0, 0);
            w.is(1, "come", 6, 10, 10, 10, 0);
            w.is(6, "party", 1, 0);
            w.refuses(-102, "come", 0, 10, 10, 10, 0);
            w.refuses(-102, "come", 7, 10, 10, 10, 0);
        });
        edges.terms("A PERSON WEIGHS 5 to 150", "5 and 150 come, 4 and 151 do not", w -> {
            w.is(0, "come", 6, 5, 5, 5, 0);
            w.is(30, "party", 0, 1);
            w.is(1, "come", 6, 150, 150, 150, 0);
            w.is(900, "party", 1, 1);
            w.refuses(-102, "come", 6, 4, 5, 5, 0);
            w.refuses(-102, "come", 6, 5, 4, 5, 0);
            w.refuses(-102, "come", 6, 5, 5, 4, 0);
            w.refuses(-102, "come", 6, 151, 150, 150, 0);
            w.refuses(-102, "come", 6, 150, 151, 150, 0);
            w.refuses(-102, "come", 6, 150, 150, 151, 0);
        });
    }

    private static void cabinHoldsSix(Edges edges) {
        edges.terms("A CABIN holds 6 PERSONS", "six as one party into an empty one, and nobody more", w -> {
            w.ask("come", 6, 10, 10, 10, 0);
            w.is(1, "may", 0);
            w.is(0, "next");
            w.ask("come", 1, 10, 10, 10, 0);
            w.is(0, "may", 0);
            w.is(-1, "next");
            w.is(6, "cabin", 0, 0);
        });
        edges.terms("has room for all of it", "five are in: one has room, two have not", w -> {
            w.seat(5, 10);
            w.ask("come", 2, 10, 10, 10, 0);
            w.ask("come", 1, 10, 10, 10, 0);
            w.is(0, "may", 0);
            w.is(1, "may", 1);
        });
        edges.terms("has room for all of it", "one is in: five have room, six have not", w -> {
            w.seat(1, 10);
            w.ask("come", 6, 10, 10, 10, 0);
            w.ask("come", 5, 10, 10, 10, 0);
            w.is(0, "may", 0);
            w.is(1, "may", 1);
        });
        edges.terms("A PARTY stays whole", "where two have room nobody of three boards", w -> {
            w.seat(4, 10);
            w.ask("come", 3, 10, 10, 10, 0);
            w.refuses(-1, "next");
            w.is(4, "cabin", 0, 0);
            w.is(3, "told", 5);
            w.is(1, "step");
            w.is(1, "next");
            w.is(3, "cabin", 5, 0);
            w.is(0, "told", 5);
        });
    }

    private static void mayBoardByAlone(Edges edges) {
        String sentence = "is empty, or nobody in it, nor the PARTY, is ALONE";
        int[] wishes = {0, 1, 2, 3};
        for (int wish : wishes) {
            edges.terms(sentence, "into an empty one with wishes " + wish, w -> {
                w.ask("come", 2, 10, 10, 10, wish);
                w.is(1, "may", 0);
            });
            edges.terms(sentence, "to one who wishes nothing, with wishes " + wish, w -> {
                w.seat(1, 10);
                w.ask("come", 2, 10, 10, 10, wish);
                w.is(wish % 2 == 0 ? 1 : 0, "may", 0);
            });
            edges.terms(sentence, "to one who would SEE, with wishes " + wish, w -> {
                w.seat(1, 10, 2);
                w.ask("come", 2, 10, 10, 10, wish);
                w.is(wish % 2 == 0 ? 1 : 0, "may", 0);
            });
            edges.terms(sentence, "to one who is ALONE, with wishes " + wish, w -> {
                w.seat(1, 10, 1);
                w.ask("come", 2, 10, 10, 10, wish);
                w.is(0, "may", 0);
            });
            edges.terms(sentence, "to one who is ALONE and would SEE, with wishes " + wish, w -> {
                w.seat(1, 10, 3);
                w.ask("come", 2, 10, 10, 10, wish);
                w.is(0, "may", 0);
            });
        }
        edges.terms(sentence, "the one who is ALONE is off: it is empty", w -> {
            w.seat(1, 10, 1);
            w.ask("come", 6, 10, 10, 10, 0);
            w.is(0, "may", 0);
            w.is(1, "leave", 0);
            w.is(1, "may", 0);
        });
        edges.terms(sentence, "who is ALONE in another cabin is nothing to it", w -> {
            w.seat(1, 10, 1);
            w.is(1, "step");
            w.seat(1, 10, 0);
            w.ask("come", 1, 10, 10, 10, 0);
            w.is(1, "may", 0);
        });
    }

    private static void mayBoardByBound(Edges edges) {
        edges.terms("with it GREATEST LEAN would be at most BOUND", "at BOUND, and one above", w -> {
            w.ask("come", 1, 100, 10, 10, 0);
            w.ask("rule", 0, 8700);
            w.is(1, "may", 0);
            w.ask("rule", 0, 8699);
            w.is(0, "may", 0);
            w.refuses(-1, "next");
        });
        edges.terms("with it GREATEST LEAN would be at most BOUND", "BOUND 0: nobody alone, but one over against as much",
            w -> {
                w.seat(1, 10);
                w.steps(3);
                w.ask("rule", 0, 0);
                w.ask("come", 1, 11, 10, 10, 0);
                w.ask("come", 1, 10, 10, 10, 0);
                w.ask("come", 1, 9, 10, 10, 0);
                w.is(0, "may", 0);
                w.is(1, "may", 1);
                w.is(0, "may", 2);
                w.is(2, "next");
                w.is(0, "greatest");
            });
        edges.terms("with it GREATEST LEAN would be at most BOUND", "above it already: who only helps still MAY not", w -> {
            w.seat(1, 100);
            w.steps(3);
            w.ask("come", 1, 40, 10, 10, 0);
            w.ask("rule", 0, 5219);
            w.is(0, "may", 0);
            w.ask("rule", 0, 5220);
            w.is(1, "may", 0);
        });
    }

    private static void theNext(Edges edges) {
        edges.terms("the first that MAY BOARD", "nobody waits, nobody MAY, the last one MAY", w -> {
            w.refuses(-1, "next");
            w.seat(5, 10);
            w.ask("come", 6, 10, 10, 10, 0);
            w.ask("come", 2, 10, 10, 10, 0);
            w.refuses(-1, "next");
            w.ask("come", 1, 10, 10, 10, 0);
            w.is(3, "next");
        });
        edges.terms("going along THE LINE from its front", "the 30th of 30 is the first that MAY", w -> {
            w.seat(5, 10);
            for (int i = 0; i < 29; i++) {
                w.ask("come", 2, 10, 10, 10, 0);
            }
            w.ask("come", 1, 10, 10, 10, 0);
            w.is(30, "waits", 29);
            w.is(30, "next");
            w.is(1, "party", 1, 5);
            w.is(1, "party", 29, 5);
            w.is(-1, "waits", 29);
        });
    }

    /** One who never MAY, and then many light ones; nobody else is passed over. */
    private static void heavyAheadOf(Tried w, int many) {
        w.ask("build", 12);
        w.ask("rule", 0, 14000);
        w.is(0, "come", 1, 150, 5, 5, 0);
        for (int i = 0; i < many; i++) {
            w.ask("come", 1, 5, 5, 5, 0);
        }
    }

    private static void lightOnesBoard(Tried w, int first, int last) {
        for (int p = first; p <= last; p++) {
            if (w.ask("cabin", (int) w.ask("told", 2), 0) == 6) {
                w.steps(1);
            }
            w.is(p, "next");
            w.is(p, "party", 0, 5);
        }
    }

    private static void patience(Edges edges) {
        String sentence = "it ends at one that was passed over PATIENCE times (1 to 20; 5 at first) and MAY not";
        edges.terms(sentence, "1 and 20 are allowed, one less and one more are not", w -> {
            w.is(5, "rule", 3, 1);
            w.is(1, "rule", 3, 20);
            w.refuses(-102, "rule", 3, 0);
            w.refuses(-102, "rule", 3, 21);
            w.is(20, "rule", 3, 5);
        });
        edges.terms(sentence, "5 at first: it goes on behind one passed over 4 times, not 5 times", w -> {
            heavyAheadOf(w, 6);
            lightOnesBoard(w, 1, 5);
            w.is(1, "may", 1);
            w.refuses(-1, "next");
            w.refuses(0, "fill");
            w.is(0, "tire", 0);
            w.is(6, "next");
        });
        edges.terms(sentence, "the least, 1", w -> {
            heavyAheadOf(w, 2);
            w.ask("rule", 3, 1);
            lightOnesBoard(w, 1, 1);
            w.is(1, "may", 1);
            w.refuses(-1, "next");
        });
        edges.terms(sentence, "the greatest, 20: 19 times, and 20 times", w -> {
            heavyAheadOf(w, 22);
            w.ask("rule", 3, 20);
            lightOnesBoard(w, 1, 20);
            w.is(1, "may", 1);
            w.refuses(-1, "next");
        });
        edges.terms(sentence, "set lower than it was passed over already", w -> {
            heavyAheadOf(w, 4);
            lightOnesBoard(w, 1, 3);
            w.ask("rule", 3, 2);
            w.refuses(-1, "next");
            w.ask("rule", 3, 3);
            w.refuses(-1, "next");
            w.ask("rule", 3, 4);
            w.is(4, "next");
        });
        edges.terms(sentence, "passed over so often, but MAY: it boards", w -> {
            heavyAheadOf(w, 6);
            lightOnesBoard(w, 1, 5);
            w.ask("rule", 0, 60000);
            w.is(0, "next");
            w.is(5, "party", 0, 5);
            w.is(6, "cabin", 0, 0);
            w.is(1, "step");
            w.is(6, "next");
        });
    }

    private static void passedOver(Edges edges) {
        String sentence = "When THE NEXT boards, all ahead of it are passed over once more";
        edges.terms(sentence, "none is ahead of the first", w -> {
            waiting(w, 2);
            w.is(0, "next");
            w.is(0, "party", 0, 5);
            w.is(0, "party", 1, 5);
        });
        edges.terms(sentence, "all ahead, itself not, none behind", w -> {
            w.seat(5, 10);
            w.ask("come", 2, 10, 10, 10, 0);
            w.ask("come", 3, 10, 10, 10, 0);
            waiting(w, 2);
            w.is(3, "next");
            w.is(1, "party", 1, 5);
            w.is(1, "party", 2, 5);
            w.is(0, "party", 3, 5);
            w.is(0, "party", 4, 5);
            w.is(0, "party", 0, 5);
        });
        edges.terms(sentence, "nobody boards: none is", w -> {
            w.seat(5, 10);
            w.ask("come", 2, 10, 10, 10, 0);
            w.refuses(-1, "next");
            w.refuses(0, "fill");
            w.is(0, "party", 1, 5);
        });
        edges.terms(sentence, "who goes away from behind passes nobody over", w -> {
            w.seat(5, 10);
            w.ask("come", 2, 10, 10, 10, 0);
            waiting(w, 1);
            w.is(2, "tire", 1);
            w.is(0, "party", 1, 5);
        });
    }

    private static void mayLeave(Edges edges) {
        String sentence = "MAY LEAVE, if GREATEST LEAN is at most BOUND then, or less than it is now";
        edges.terms(sentence, "more than now: at BOUND, and one above", w -> {
            evenWith(w, 100, 100);
            w.ask("rule", 0, 8699);
            w.refuses(-103, "leave", 1);
            w.ask("rule", 0, 8700);
            w.is(1, "leave", 1);
        });
        edges.terms(sentence, "as much as now: at BOUND, and one above", w -> {
            evenWith(w, 50, 100);
            w.ask("rule", 0, 4349);
            w.is(4350, "greatest");
            w.refuses(-103, "leave", 1);
            w.ask("rule", 0, 4350);
            w.is(1, "leave", 1);
            w.is(4350, "greatest");
        });
        edges.terms(sentence, "one less than now, and far above BOUND", w -> {
            evenWith(w, 50, 101);
            w.ask("rule", 0, 0);
            w.is(51 * 87, "greatest");
            w.is(1, "leave", 1);
            w.is(50 * 87, "greatest");
        });
        edges.terms(sentence, "one more than now", w -> {
            evenWith(w, 50, 99);
            w.ask("rule", 0, 0);
            w.is(49 * 87, "greatest");
            w.refuses(-103, "leave", 1);
        });
        edges.terms(sentence, "the last one, by BOUND 0", w -> {
            w.seat(1, 10);
            w.ask("rule", 0, 0);
            w.is(1, "leave", 0);
            w.is(0, "greatest");
        });
    }

    /** One in cabin 0, now at the top, and one over against it in cabin 3, at the door. */
    private static void evenWith(Tried w, int atTop, int atDoor) {
        w.seat(1, atTop);
        w.steps(3);
        w.seat(1, atDoor);
    }

    // ---- promises

    private static void come(Edges edges) {
        edges.promise(16, "A PARTY of m PERSONS (1 to 6), which WEIGH a, b, c, and again a, b, c", "each m from 1 to 6", w -> {
            int[] together = {5, 155, 225, 230, 380, 450};
            for (int m = 1; m <= 6; m++) {
                w.is(m - 1, "come", m, 5, 150, 70, 0);
                w.is(m, "party", m - 1, 0);
                w.is(together[m - 1], "party", m - 1, 1);
            }
        });
        edges.promise(16, "wishes: 1 ALONE, 2 SEE (as bits, 0 to 3)", "0 and 3 are allowed, -1 and 4 are not", w -> {
            for (int wishes = 0; wishes <= 3; wishes++) {
                w.is(wishes, "come", 1, 10, 10, 10, wishes);
                w.is(wishes, "party", wishes, 2);
            }
            w.refuses(-102, "come", 1, 10, 10, 10, -1);
            w.refuses(-102, "come", 1, 10, 10, 10, 4);
            w.is(4, "told", 7);
        });
        edges.promise(16, "OUTSIDE", "each number at the ends of 32 bits", w -> {
            int[] right = {3, 50, 60, 70, 1};
            Tried now = w;
            for (int i = 0; i < 5; i++) {
                now.busy();
                for (int end : new int[] {LOW, HIGH}) {
                    int[] wrong = right.clone();
                    wrong[i] = end;
                    now.refuses(-102, "come", wrong);
                }
                now = w.another();
            }
        });
        edges.promise(16, "OUTSIDE", "also the weights that nobody of the PARTY has", w -> {
            w.refuses(-102, "come", 1, 50, 4, 50, 0);
            w.refuses(-102, "come", 1, 50, 50, 151, 0);
            w.refuses(-102, "come", 2, 50, 50, 0, 0);
            w.is(0, "told", 7);
        });
        edges.promise(16, "its number", "the first is 0, also anew", w -> {
            w.is(0, "come", 1, 10, 10, 10, 0);
            w.is(1, "come", 1, 10, 10, 10, 0);
            w.is(6, "build", 6);
            w.is(0, "come", 1, 10, 10, 10, 0);
        });
    }

    private static void comeFull(Edges edges) {
        edges.promise(16, "FULL: 30 wait, or 200 came", "who boards or goes away frees a place", w -> {
            waiting(w, 30);
            w.refuses(-104, "come", 1, 10, 10, 10, 0);
            w.is(0, "next");
            w.is(30, "come", 1, 10, 10, 10, 0);
            w.refuses(-104, "come", 1, 10, 10, 10, 0);
            w.is(7, "tire", 6);
            w.is(31, "come", 1, 10, 10, 10, 0);
            w.refuses(-104, "come", 1, 10, 10, 10, 0);
        });
        edges.promise(16, "FULL: 30 wait, or 200 came", "200 came, and nobody waits; anew there is room", w -> {
            for (int p = 0; p < 200; p++) {
                w.ask("come", 1, 10, 10, 10, 0);
                w.ask("tire", 0);
            }
            w.is(0, "told", 5);
            w.refuses(-104, "come", 1, 10, 10, 10, 0);
            w.is(6, "build", 6);
            w.is(0, "come", 1, 10, 10, 10, 0);
        });
        edges.promise(16, "OUTSIDE; FULL: 30 wait, or 200 came", "both: OUTSIDE is told first", w -> {
            waiting(w, 30);
            w.refuses(-102, "come", 0, 10, 10, 10, 0);
            w.refuses(-102, "come", 1, 4, 10, 10, 0);
            w.refuses(-102, "come", 1, 10, 10, 10, 4);
            w.refuses(-104, "come", 6, 150, 150, 150, 3);
        });
    }

    private static void waitsAndMay(Edges edges) {
        edges.promise(17, "The k-th in THE LINE; NONE", "the first and the 30th; -1, 30, and 32 bits at their ends", w -> {
            waiting(w, 30);
            w.is(0, "waits", 0);
            w.is(29, "waits", 29);
            for (int k : new int[] {-1, 30, LOW, HIGH}) {
                w.refuses(-1, "waits", k);
            }
        });
        edges.promise(17, "The k-th in THE LINE; NONE", "nobody waits", w -> {
            w.refuses(-1, "waits", 0);
            waiting(w, 1);
            w.is(0, "next");
            w.refuses(-1, "waits", 0);
        });
        edges.promise(18, "Whether the k-th in THE LINE MAY BOARD now: 1, 0", "it changes nothing, whatever it says", w -> {
            w.seat(5, 10);
            w.ask("come", 2, 10, 10, 10, 0);
            w.ask("come", 1, 10, 10, 10, 0);
            w.refuses(0, "may", 0);
            w.refuses(1, "may", 1);
        });
        edges.promise(18, "Whether the k-th in THE LINE MAY BOARD now: 1, 0", "also behind one that ends THE LINE", w -> {
            heavyAheadOf(w, 2);
            w.ask("rule", 3, 1);
            w.is(1, "next");
            w.is(0, "may", 0);
            w.is(1, "may", 1);
            w.is(-1, "next");
        });
        edges.promise(18, "UNKNOWN", "the 30th is there; -1, 30, and 32 bits at their ends are not", w -> {
            waiting(w, 30);
            w.is(1, "may", 29);
            for (int k : new int[] {-1, 30, LOW, HIGH}) {
                w.refuses(-101, "may", k);
            }
        });
        edges.promise(18, "UNKNOWN", "nobody waits", w -> w.refuses(-101, "may", 0));
    }

    private static void nextAndFill(Edges edges) {
        edges.promise(19, "THE NEXT boards: its number; NONE: there is none", "nobody waits", w -> w.refuses(-1, "next"));
        edges.promise(19, "THE NEXT boards: its number; NONE: there is none", "the cabin is full, and then another one", w -> {
            w.seat(6, 10);
            waiting(w, 1);
            w.refuses(-1, "next");
            w.is(1, "step");
            w.is(1, "next");
            w.is(5, "party", 1, 3);
            w.refuses(-1, "next");
        });
        edges.promise(19, "THE NEXT boards: its number; NONE: there is none", "the 200th", w -> {
            for (int p = 0; p < 199; p++) {
                w.ask("come", 1, 10, 10, 10, 0);
                w.ask("tire", 0);
            }
            w.ask("come", 6, 10, 10, 10, 0);
            w.is(199, "next");
            w.is(199, "inside", 0, 0);
        });
        edges.promise(20, "THE NEXT boards, again and again, until there is none: how many PARTIES", "nobody waits, nobody MAY",
            w -> {
                w.refuses(0, "fill");
                w.seat(6, 10);
                waiting(w, 3);
                w.refuses(0, "fill");
            });
        edges.promise(20, "THE NEXT boards, again and again, until there is none: how many PARTIES", "six of 30, one, none", w -> {
            waiting(w, 30);
            w.is(6, "fill");
            w.is(6, "waits", 0);
            w.refuses(0, "fill");
            w.is(1, "leave", 3);
            w.is(1, "fill");
            w.is(6, "inside", 0, 5);
        });
        edges.promise(20, "until there is none", "it ends with PATIENCE, though room is left", w -> {
            heavyAheadOf(w, 6);
            w.ask("rule", 3, 3);
            w.is(3, "fill");
            w.is(3, "party", 0, 5);
            w.is(3, "cabin", 0, 0);
            w.is(1, "may", 1);
        });
    }

    private static void tire(Edges edges) {
        edges.promise(21, "The k-th in THE LINE goes away: its number", "the first, one between, the last", w -> {
            waiting(w, 30);
            w.is(0, "tire", 0);
            w.is(15, "tire", 14);
            w.is(29, "tire", 27);
            w.is(1, "waits", 0);
            w.is(14, "waits", 13);
            w.is(16, "waits", 14);
            w.is(28, "waits", 26);
            w.is(-1, "waits", 27);
            w.is(101, "party", 15, 3);
        });
        edges.promise(21, "UNKNOWN", "-1, 30, and 32 bits at their ends", w -> {
            waiting(w, 30);
            for (int k : new int[] {-1, 30, LOW, HIGH}) {
                w.refuses(-101, "tire", k);
            }
        });
        edges.promise(21, "UNKNOWN", "nobody waits, though somebody is up", w -> {
            w.refuses(-101, "tire", 0);
            w.seat(1, 10);
            w.refuses(-101, "tire", 0);
            waiting(w, 1);
            w.is(1, "tire", 0);
            w.refuses(-101, "tire", 0);
        });
    }

    private static void leave(Edges edges) {
        edges.promise(22, "A PARTY gets off: PERSONS", "one of 1, one of 6; the cabin is empty then", w -> {
            w.seat(1, 10);
            w.is(1, "leave", 0);
            w.is(0, "cabin", 0, 1);
            w.seat(6, 10);
            w.is(6, "leave", 1);
            w.is(0, "cabin", 0, 0);
            w.is(0, "load", 0);
            w.is(0, "told", 4);
        });
        edges.promise(22, "A PARTY gets off: PERSONS", "the last of six, the first of six", w -> {
            for (int i = 0; i < 6; i++) {
                w.seat(1, 10 + i);
            }
            w.is(1, "leave", 5);
            w.is(1, "leave", 0);
            w.is(4, "cabin", 0, 1);
            w.is(1, "inside", 0, 0);
            w.is(4, "inside", 0, 3);
            w.is(11 + 12 + 13 + 14, "load", 0);
        });
        edges.promise(22, "UNKNOWN: it is not in THE CABIN at THE DOOR", "has not come: -1, one more, 32 bits' ends", w -> {
            w.refuses(-101, "leave", 0);
            w.seat(1, 10);
            for (int p : new int[] {-1, 1, LOW, HIGH}) {
                w.refuses(-101, "leave", p);
            }
        });
        edges.promise(22, "UNKNOWN: it is not in THE CABIN at THE DOOR", "waits, went away, got off", w -> {
            w.seat(1, 10);
            waiting(w, 2);
            w.refuses(-101, "leave", 1);
            w.is(2, "tire", 1);
            w.refuses(-101, "leave", 2);
            w.is(1, "leave", 0);
            w.refuses(-101, "leave", 0);
        });
        edges.promise(22, "UNKNOWN: it is not in THE CABIN at THE DOOR", "one place from it, and at it again", w -> {
            w.seat(1, 10);
            w.steps(1);
            w.refuses(-101, "leave", 0);
            w.steps(4);
            w.refuses(-101, "leave", 0);
            w.steps(1);
            w.is(1, "leave", 0);
        });
        edges.promise(22, "STATE: it MAY not LEAVE", "it stays whole, where it is", w -> {
            evenWith(w, 100, 100);
            w.ask("rule", 0, 0);
            w.refuses(-103, "leave", 1);
            w.is(3, "party", 1, 3);
            w.is(1, "inside", 3, 0);
            w.is(100, "load", 3);
        });
        edges.promise(22, "UNKNOWN: it is not in THE CABIN at THE DOOR; STATE: it MAY not LEAVE",
            "both: UNKNOWN is told first", w -> {
                evenWith(w, 100, 100);
                w.ask("rule", 0, 0);
                w.refuses(-101, "leave", 0);
                w.refuses(-103, "leave", 1);
            });
    }

    private static void party(Edges edges) {
        edges.promise(23, "UNKNOWN: p has not come; OUTSIDE", "UNKNOWN: nobody came", w -> {
            w.refuses(-101, "party", 0, 0);
            w.ask("come", 7, 10, 10, 10, 0);
            w.refuses(-101, "party", 0, 0);
        });
        edges.promise(23, "UNKNOWN: p has not come; OUTSIDE", "UNKNOWN: -1, one more, and 32 bits at their ends", w -> {
            w.busy();
            w.is(6, "party", 7, 0);
            for (int p : new int[] {-1, 8, LOW, HIGH}) {
                w.refuses(-101, "party", p, 0);
            }
        });
        edges.promise(23, "UNKNOWN: p has not come; OUTSIDE", "OUTSIDE: -1, 6, and 32 bits at their ends", w -> {
            w.busy();
            for (int what : new int[] {-1, 6, LOW, HIGH}) {
                w.refuses(-102, "party", 0, what);
            }
        });
        edges.promise(23, "UNKNOWN: p has not come; OUTSIDE", "both: UNKNOWN is told first", w -> {
            w.busy();
            w.refuses(-101, "party", 8, 6);
            w.refuses(-101, "party", -1, -1);
            w.refuses(-101, "party", LOW, HIGH);
        });
        edges.promise(23, "0 PERSONS, 1 what they WEIGH together, 2 its wishes", "the least and the most of each, gone too", w -> {
            w.seat(1, 5, 0);
            w.is(1, "leave", 0);
            w.ask("rule", 0, 1000000);
            w.seat(6, 150, 3);
            int[] least = {1, 5, 0, 101, 0, 0};
            int[] most = {6, 900, 3, 0, 0, 0};
            for (int what = 0; what <= 5; what++) {
                w.is(least[what], "party", 0, what);
                w.is(most[what], "party", 1, what);
            }
        });
        edges.promise(23, "4 whether it has SEEN (1, 0)", "it stays so, when it is gone", w -> {
            w.seat(1, 10);
            w.steps(3);
            w.is(1, "party", 0, 4);
            w.steps(3);
            w.is(1, "leave", 0);
            w.is(1, "party", 0, 4);
        });
        edges.promise(23, "5 how often it was passed over", "0, once, and it stays so, when it goes away", w -> {
            passedOnce(w);
            w.is(1, "tire", 0);
            w.is(1, "party", 1, 5);
        });
        edges.promise(23, "5 how often it was passed over", "it stays so, when it boards, and when it gets off", w -> {
            passedOnce(w);
            w.steps(1);
            w.is(1, "next");
            w.is(1, "party", 1, 5);
            w.is(2, "leave", 1);
            w.is(1, "party", 1, 5);
        });
        edges.promise(23, "5 how often it was passed over", "it stays so, when it is let out", w -> {
            passedOnce(w);
            w.steps(1);
            w.is(1, "next");
            w.ask("letOut");
            w.is(101, "party", 1, 3);
            w.is(1, "party", 1, 5);
        });
    }

    /** Two who wait for room, and one behind them who had it. */
    private static void passedOnce(Tried w) {
        w.seat(5, 10);
        w.ask("come", 2, 10, 10, 10, 0);
        waiting(w, 1);
        w.is(0, "party", 1, 5);
        w.is(2, "next");
        w.is(1, "party", 1, 5);
    }

    private static void partyIsWhere(Edges edges) {
        edges.promise(23, "its CABIN; 100 it waits, 101 it is gone", "waits, the first cabin, the last cabin, gone", w -> {
            w.ask("build", 30);
            waiting(w, 3);
            w.is(100, "party", 0, 3);
            w.is(0, "next");
            w.is(0, "party", 0, 3);
            w.steps(1);
            w.is(1, "next");
            w.is(29, "party", 1, 3);
            w.is(1, "leave", 1);
            w.is(101, "party", 1, 3);
            w.is(2, "tire", 0);
            w.is(101, "party", 2, 3);
        });
        edges.promise(23, "its CABIN; 100 it waits, 101 it is gone", "let out: all six of a cabin, not those who wait", w -> {
            waiting(w, 8);
            w.is(6, "fill");
            w.is(6, "letOut");
            for (int p = 0; p < 8; p++) {
                w.is(p < 6 ? 101 : 100, "party", p, 3);
            }
        });
        edges.promise(23, "its CABIN; 100 it waits, 101 it is gone", "its cabin stays the same as the wheel goes round", w -> {
            w.seat(1, 10);
            for (int i = 0; i < 6; i++) {
                w.steps(1);
                w.is(0, "party", 0, 3);
            }
        });
    }

    // ---- whole sentences, beside their edges

    private static void wishes(Edges edges) {
        edges.terms("are of 1 to 6 PERSONS, and may wish to be ALONE (no other PARTY in the CABIN), or to SEE (the top)",
            "neither, the one, the other, both: of one person, and of six", w -> {
                for (int i = 0; i < 8; i++) {
                    w.is(i, "come", i % 2 == 0 ? 1 : 6, 10, 10, 10, i / 2);
                    w.is(i / 2, "party", i, 2);
                }
                for (int i = 0; i < 8; i++) {
                    w.is(1, "may", 0);
                    w.is(i, "next");
                    w.is(i / 2 % 2, "cabin", (int) w.ask("told", 2), 2);
                    w.is(i % 2 == 0 ? 1 : 6, "leave", i);
                }
            });
        edges.terms("or to SEE (the top)", "who wishes it may get off without, and who does not sees too", w -> {
            w.seat(1, 10, 2);
            w.is(1, "leave", 0);
            w.is(0, "party", 0, 4);
            w.seat(1, 10, 0);
            w.steps(3);
            w.is(1, "party", 1, 4);
        });
    }

    private static void mayBoardIfAll(Edges edges) {
        String sentence = "A PARTY MAY BOARD now, if THE CABIN at THE DOOR has room for all of it, and is empty, or nobody in it,"
            + " nor the PARTY, is ALONE; and with it GREATEST LEAN would be at most BOUND";
        // persons and wishes in the cabin, persons and wishes of the party, BOUND by 87, and whether it MAY
        int[][] rows = {{3, 0, 3, 0, 60, 1}, {3, 0, 4, 0, 70, 0}, {3, 1, 3, 0, 60, 0}, {3, 0, 3, 1, 60, 0}, {3, 0, 3, 0, 59, 0},
            {3, 2, 3, 2, 60, 1}, {3, 2, 3, 3, 60, 0}, {0, 0, 6, 1, 60, 1}, {0, 0, 6, 3, 59, 0}, {4, 1, 3, 1, 10, 0}};
        for (int[] row : rows) {
            String edge = row[0] + " in it with wishes " + row[1] + ", " + row[2] + " with wishes " + row[3] + ", BOUND " + row[4];
            edges.terms(sentence, edge, w -> {
                if (row[0] > 0) {
                    w.seat(row[0], 10, row[1]);
                }
                w.ask("rule", 0, row[4] * 87);
                w.ask("come", row[2], 10, 10, 10, row[3]);
                w.is(row[5], "may", 0);
                w.is(row[5] == 1 ? row[0] > 0 ? 1 : 0 : -1, "next");
            });
        }
        edges.terms(sentence, "the one at THE DOOR alone: now it MAY, a STEP on it MAY not", w -> {
            w.steps(1);
            w.seat(6, 10, 1);
            w.steps(5);
            w.ask("come", 1, 10, 10, 10, 0);
            w.is(1, "may", 0);
            w.steps(1);
            w.is(0, "may", 0);
            w.steps(1);
            w.is(1, "may", 0);
        });
    }

    private static void nextOfThree(Edges edges) {
        String sentence = "THE NEXT: going along THE LINE from its front, the first that MAY BOARD; but it ends at one that was"
            + " passed over PATIENCE times (1 to 20; 5 at first) and MAY not";
        for (int first = 0; first < 3; first++) {
            int due = first;
            edges.terms(sentence, "number " + due + " of three is the first that MAY", w -> {
                w.seat(5, 10);
                for (int i = 0; i < 3; i++) {
                    w.ask("come", i < due ? 2 : 1, 10, 10, 10, 0);
                }
                w.is(1 + due, "next");
                for (int i = 0; i < 3; i++) {
                    w.is(i < due ? 1 : 0, "party", 1 + i, 5);
                }
            });
        }
        edges.terms(sentence, "it ends at the second of three, though the first was not passed over so often", w -> {
            w.ask("rule", 3, 2);
            w.seat(5, 10);
            w.ask("come", 2, 10, 10, 10, 0);
            // 2 and 3 board past 1, who has been passed over twice then
            for (int p = 2; p <= 3; p++) {
                w.ask("come", 1, 10, 10, 10, 0);
                w.is(p, "next");
                w.is(1, "leave", p);
            }
            w.is(2, "party", 1, 5);
            w.ask("come", 1, 10, 10, 10, 0);
            w.is(1, "may", 1);
            w.refuses(-1, "next");
            w.is(1, "tire", 0);
            w.is(4, "next");
        });
    }

    private static void eachMayLeaveByItself(Edges edges) {
        edges.terms("A PARTY in THE CABIN at THE DOOR MAY LEAVE, if GREATEST LEAN is at most BOUND then, or less than it is now",
            "of three in it, each by what it weighs", w -> {
                // 100 at the top; 80, 20 and 130 at the door: greatest is 130 times 87
                w.seat(1, 100);
                w.steps(3);
                w.seat(1, 80);
                w.seat(1, 20);
                w.seat(1, 130);
                w.ask("rule", 0, 0);
                w.is(130 * 87, "greatest");
                w.is(1, "leave", 3);
                w.is(0, "greatest");
                w.refuses(-103, "leave", 1);
                w.refuses(-103, "leave", 2);
                w.ask("rule", 0, 20 * 87);
                w.refuses(-103, "leave", 1);
                w.is(1, "leave", 2);
                w.is(20 * 87, "greatest");
                w.ask("rule", 0, 100 * 87);
                w.is(1, "leave", 1);
            });
    }

    private static void tellsOfAParty(Edges edges) {
        edges.promise(23, "Of a PARTY: what = 0 PERSONS, 1 what they WEIGH together, 2 its wishes, 3 where it is",
            "none like another, as they wait, ride and are gone", w -> {
                int[][] due = {{4, 270, 2}, {2, 111, 1}, {6, 66, 0}};
                w.ask("come", 4, 90, 80, 10, 2);
                w.ask("come", 2, 100, 11, 50, 1);
                w.ask("come", 6, 5, 8, 20, 0);
                for (int p = 0; p < 3; p++) {
                    for (int what = 0; what < 3; what++) {
                        w.is(due[p][what], "party", p, what);
                    }
                    w.is(100, "party", p, 3);
                }
                w.is(0, "next");
                w.steps(1);
                w.is(1, "next");
                w.is(2, "leave", 1);
                int[] places = {0, 101, 100};
                for (int p = 0; p < 3; p++) {
                    for (int what = 0; what < 3; what++) {
                        w.is(due[p][what], "party", p, what);
                    }
                    w.is(places[p], "party", p, 3);
                }
            });
    }
}
