/** Promises 16 to 23: parties and the line. */
public final class LineTest {
    private static final Check CHECK = new Check("LineTest");
    private static final int LOW = Integer.MIN_VALUE;
    private static final int HIGH = Integer.MAX_VALUE;

    public static void main(String[] args) {
        come();
        comeFull();
        waitsAndTire();
        mayByRoom();
        mayByAlone();
        mayByBound();
        next();
        patience();
        patienceSetLower();
        fill();
        tireFreesTheLine();
        leave();
        leaveByBound();
        party();
        CHECK.end();
    }

    private static void is(String call, long got, long due) {
        CHECK.is(call, got, due);
    }

    private static void come() {
        EvenWheel x = new EvenWheel();
        long before = x.digest();
        is("16 come(0, ..)", x.come(0, 50, 50, 50, 0), -102);
        is("16 come(7, ..)", x.come(7, 50, 50, 50, 0), -102);
        is("16 come(MIN, ..)", x.come(LOW, 50, 50, 50, 0), -102);
        is("16 come(MAX, ..)", x.come(HIGH, 50, 50, 50, 0), -102);
        is("16 a 4", x.come(6, 4, 50, 50, 0), -102);
        is("16 b 4", x.come(6, 50, 4, 50, 0), -102);
        is("16 c 4", x.come(6, 50, 50, 4, 0), -102);
        is("16 a 151", x.come(6, 151, 50, 50, 0), -102);
        is("16 b 151", x.come(6, 50, 151, 50, 0), -102);
        is("16 c 151", x.come(6, 50, 50, 151, 0), -102);
        is("16 c MAX", x.come(6, 50, 50, HIGH, 0), -102);
        is("16 a MIN", x.come(6, LOW, 50, 50, 0), -102);
        is("16 wishes 4", x.come(1, 50, 50, 50, 4), -102);
        is("16 wishes -1", x.come(1, 50, 50, 50, -1), -102);
        is("16 b of one person is a weight too", x.come(1, 50, 4, 50, 0), -102);
        is("16 c of two persons is a weight too", x.come(2, 50, 50, 151, 0), -102);
        CHECK.unchanged("16 come refused", x, before);
        for (int m = 1; m <= 6; m++) {
            is("16 come(" + m + ")", x.come(m, 5, 150, 70, m % 4), m - 1);
        }
        int[] together = {5, 155, 225, 230, 380, 450};
        for (int m = 1; m <= 6; m++) {
            is("16 what " + m + " weigh", x.party(m - 1, 1), together[m - 1]);
            is("16 persons", x.party(m - 1, 0), m);
            is("16 wishes", x.party(m - 1, 2), m % 4);
            is("16 waits", x.party(m - 1, 3), 100);
            is("16 the line", x.waits(m - 1), m - 1);
        }
    }

    private static void comeFull() {
        EvenWheel x = new EvenWheel();
        for (int p = 0; p < 30; p++) {
            is("16 come " + p, x.come(1, 50, 50, 50, 0), p);
        }
        long before = x.digest();
        is("16 30 wait", x.come(1, 50, 50, 50, 0), -104);
        is("16 OUTSIDE ahead of FULL", x.come(1, 50, 50, 50, 9), -102);
        CHECK.unchanged("16 come refused", x, before);
        for (int p = 30; p < 200; p++) {
            is("16 tire(0)", x.tire(0), p - 30);
            is("16 come " + p, x.come(1, 50, 50, 50, 0), p);
        }
        for (int p = 170; p < 200; p++) {
            is("16 tire(0)", x.tire(0), p);
        }
        is("16 nobody waits", x.told(5), 0);
        is("16 200 came", x.come(1, 50, 50, 50, 0), -104);
        is("16 party(199, 3)", x.party(199, 3), 101);
        is("16 party(200, 3)", x.party(200, 3), -101);
        x.build(6);
        is("16 anew", x.come(1, 50, 50, 50, 0), 0);
    }

    private static void waitsAndTire() {
        EvenWheel x = new EvenWheel();
        for (int p = 0; p < 4; p++) {
            x.come(1 + p, 50, 50, 50, 0);
        }
        is("17 waits(3)", x.waits(3), 3);
        is("17 waits(4)", x.waits(4), -1);
        is("17 waits(-1)", x.waits(-1), -1);
        is("17 waits(MAX)", x.waits(HIGH), -1);
        is("17 waits(MIN)", x.waits(LOW), -1);
        is("21 tire(1)", x.tire(1), 1);
        is("21 party(1, 3)", x.party(1, 3), 101);
        is("21 party(1, 5)", x.party(1, 5), 0);
        is("17 waits(0)", x.waits(0), 0);
        is("17 waits(1)", x.waits(1), 2);
        is("17 waits(2)", x.waits(2), 3);
        is("17 waits(3) now", x.waits(3), -1);
        is("21 tire(3)", x.tire(3), -101);
        is("21 tire(-1)", x.tire(-1), -101);
        is("21 tire(MAX)", x.tire(HIGH), -101);
        is("21 tire(MIN)", x.tire(LOW), -101);
        is("21 tire(2)", x.tire(2), 3);
        is("21 told(5)", x.told(5), 4);
    }

    private static void mayByRoom() {
        EvenWheel x = new EvenWheel();
        x.come(4, 50, 50, 50, 0);
        x.next();
        x.come(3, 50, 50, 50, 0);
        x.come(2, 50, 50, 50, 0);
        is("18 three have no room", x.may(0), 0);
        is("18 two fill it", x.may(1), 1);
        is("18 may(2)", x.may(2), -101);
        is("18 may(-1)", x.may(-1), -101);
        is("18 may(MIN)", x.may(LOW), -101);
        is("18 may(MAX)", x.may(HIGH), -101);
        x.step();
        is("18 three into an empty one", x.may(0), 1);
        is("18 nothing is done by may()", x.waits(0), 1);
    }

    private static void mayByAlone() {
        EvenWheel x = new EvenWheel();
        x.come(1, 50, 50, 50, 1);
        is("18 ALONE into an empty one", x.may(0), 1);
        x.next();
        x.come(1, 50, 50, 50, 0);
        x.come(1, 50, 50, 50, 1);
        is("18 to one that is ALONE", x.may(0), 0);
        is("18 ALONE to one that is ALONE", x.may(1), 0);
        x.leave(0);
        is("18 when it is off", x.may(0), 1);
        is("19 next()", x.next(), 1);
        is("18 ALONE to another", x.may(0), 0);
        x.come(1, 50, 50, 50, 2);
        is("18 SEE to another", x.may(1), 1);
        x.come(1, 50, 50, 50, 3);
        is("18 ALONE and SEE to another", x.may(2), 0);
    }

    private static void mayByBound() {
        EvenWheel x = new EvenWheel();
        x.rule(0, 8700);
        x.come(1, 101, 50, 50, 0);
        x.come(1, 100, 50, 50, 0);
        is("18 above BOUND", x.may(0), 0);
        is("18 at BOUND", x.may(1), 1);
        is("19 next()", x.next(), 1);
        x.come(1, 100, 50, 50, 0);
        is("18 no more here", x.may(1), 0);
        x.stop(3);
        is("18 100 over against", x.may(1), 1);
        is("18 101 over against", x.may(0), 1);
        x.rule(0, 86);
        is("18 101 leans 87 the other way", x.may(0), 0);
        is("18 100 is even", x.may(1), 1);
        is("19 next()", x.next(), 2);
        x.rule(0, 0);
        is("18 BOUND 0", x.may(0), 0);
    }

    private static void next() {
        EvenWheel x = new EvenWheel();
        is("19 nobody waits", x.next(), -1);
        x.come(5, 50, 50, 50, 0);
        x.come(3, 50, 50, 50, 0);
        x.come(2, 50, 50, 50, 1);
        x.come(1, 50, 50, 50, 0);
        x.come(1, 50, 50, 50, 0);
        is("19 the first", x.next(), 0);
        is("19 none passed over", x.party(1, 5), 0);
        is("19 passes over two", x.next(), 3);
        is("19 party(1, 5)", x.party(1, 5), 1);
        is("19 party(2, 5)", x.party(2, 5), 1);
        is("19 party(4, 5) is behind", x.party(4, 5), 0);
        is("19 party(3, 3)", x.party(3, 3), 0);
        is("19 waits(2)", x.waits(2), 4);
        is("19 full", x.next(), -1);
        is("19 none passed over by none", x.party(1, 5), 1);
        is("19 load(0)", x.load(0), 300);
        is("19 told(5)", x.told(5), 6);
    }

    private static void patience() {
        EvenWheel x = new EvenWheel();
        x.rule(3, 2);
        x.come(1, 50, 50, 50, 0);
        x.next();
        x.come(6, 50, 50, 50, 0);
        x.come(1, 50, 50, 50, 0);
        x.come(1, 50, 50, 50, 0);
        x.come(1, 50, 50, 50, 0);
        is("19 once", x.next(), 2);
        is("19 twice", x.next(), 3);
        is("19 party(1, 5)", x.party(1, 5), 2);
        is("19 it ends at the first", x.next(), -1);
        is("20 fill()", x.fill(), 0);
        is("18 the one behind MAY BOARD", x.may(1), 1);
        x.rule(3, 3);
        is("19 with more patience", x.next(), 4);
        is("19 party(1, 5)", x.party(1, 5), 3);
        x.step();
        is("19 passed over, but MAY", x.next(), 1);
        is("19 party(1, 5) stays", x.party(1, 5), 3);
    }

    private static void patienceSetLower() {
        EvenWheel x = new EvenWheel();
        x.come(1, 50, 50, 50, 0);
        x.next();
        x.come(6, 50, 50, 50, 0);
        for (int i = 0; i < 4; i++) {
            x.come(1, 50, 50, 50, 0);
        }
        x.next();
        x.next();
        x.next();
        is("19 party(1, 5)", x.party(1, 5), 3);
        x.rule(3, 1);
        is("19 more than PATIENCE times", x.next(), -1);
        x.tire(0);
        is("19 without it", x.next(), 5);
    }

    private static void fill() {
        EvenWheel x = new EvenWheel();
        is("20 nobody waits", x.fill(), 0);
        int[] persons = {3, 4, 2, 2, 1, 1};
        for (int m : persons) {
            x.come(m, 10, 10, 10, 0);
        }
        is("20 fill()", x.fill(), 3);
        is("20 inside(0, 0)", x.inside(0, 0), 0);
        is("20 inside(0, 1)", x.inside(0, 1), 2);
        is("20 inside(0, 2)", x.inside(0, 2), 4);
        is("20 party(1, 5)", x.party(1, 5), 2);
        is("20 party(3, 5)", x.party(3, 5), 1);
        is("20 party(5, 5)", x.party(5, 5), 0);
        is("20 fill() again", x.fill(), 0);
        x.step();
        is("20 the next cabin", x.fill(), 2);
        is("20 inside(5, 0)", x.inside(5, 0), 1);
        is("20 inside(5, 1)", x.inside(5, 1), 3);
        is("20 waits(0)", x.waits(0), 5);
        x.build(6);
        for (int i = 0; i < 8; i++) {
            x.come(1, 10, 10, 10, 0);
        }
        is("20 six at most", x.fill(), 6);
        is("20 cabin(0, 1)", x.cabin(0, 1), 6);
    }

    private static void tireFreesTheLine() {
        EvenWheel x = new EvenWheel();
        x.come(6, 50, 50, 50, 0);
        is("21 next()", x.next(), 0);
        is("21 nobody waits", x.tire(0), -101);
        is("21 who is up stays", x.told(4), 6);
        x.come(1, 50, 50, 50, 0);
        is("21 tire(0)", x.tire(0), 1);
        is("21 gone does not come back", x.waits(0), -1);
    }

    private static void leave() {
        EvenWheel x = new EvenWheel();
        x.come(2, 50, 60, 50, 0);
        x.come(1, 70, 50, 50, 0);
        x.come(6, 50, 50, 50, 0);
        x.fill();
        long before = x.digest();
        is("22 who waits", x.leave(2), -101);
        is("22 who has not come", x.leave(3), -101);
        is("22 leave(-1)", x.leave(-1), -101);
        is("22 leave(MIN)", x.leave(LOW), -101);
        is("22 leave(MAX)", x.leave(HIGH), -101);
        CHECK.unchanged("22 leave refused", x, before);
        is("22 leave(0)", x.leave(0), 2);
        is("22 party(0, 3)", x.party(0, 3), 101);
        is("22 load(0)", x.load(0), 70);
        is("22 cabin(0, 1)", x.cabin(0, 1), 1);
        is("22 who is gone", x.leave(0), -101);
        x.step();
        is("22 not at the door", x.leave(1), -101);
        x.stop(5);
        is("22 at the door again", x.leave(1), 1);
        is("22 nobody is up", x.told(4), 0);
    }

    private static void leaveByBound() {
        EvenWheel x = new EvenWheel();
        x.come(1, 100, 50, 50, 0);
        x.next();
        x.stop(3);
        x.come(1, 90, 50, 50, 0);
        x.next();
        x.rule(0, 8699);
        long before = x.digest();
        is("22 MAY not: 8700 then, 870 now", x.leave(1), -103);
        CHECK.unchanged("22 leave refused", x, before);
        x.rule(0, 8700);
        is("22 MAY: BOUND", x.leave(1), 1);
        x.build(6);
        x.rule(0, 60000);
        x.come(1, 40, 50, 50, 0);
        x.come(1, 50, 50, 50, 0);
        x.fill();
        x.rule(0, 0);
        is("22 MAY: less than now, if above BOUND", x.leave(0), 1);
        is("22 MAY: less than now", x.leave(1), 1);
        x.rule(0, 60000);
        x.come(1, 50, 50, 50, 0);
        x.next();
        x.stop(3);
        x.come(1, 100, 50, 50, 0);
        x.next();
        x.rule(0, 100);
        is("22 MAY not: as great as now", x.leave(3), -103);
    }

    private static void party() {
        EvenWheel x = new EvenWheel();
        is("23 party(0, 0)", x.party(0, 0), -101);
        x.come(5, 60, 70, 80, 3);
        x.come(6, 60, 70, 80, 2);
        x.come(1, 60, 70, 80, 0);
        x.step();
        x.next();
        is("23 persons", x.party(0, 0), 5);
        is("23 weight", x.party(0, 1), 340);
        is("23 wishes", x.party(0, 2), 3);
        is("23 its cabin", x.party(0, 3), 5);
        is("23 not seen", x.party(0, 4), 0);
        is("23 not passed over", x.party(0, 5), 0);
        is("23 waits", x.party(1, 3), 100);
        is("23 party(0, 6)", x.party(0, 6), -102);
        is("23 party(0, -1)", x.party(0, -1), -102);
        is("23 party(0, MIN)", x.party(0, LOW), -102);
        is("23 party(3, 0)", x.party(3, 0), -101);
        is("23 party(3, 6): UNKNOWN ahead of OUTSIDE", x.party(3, 6), -101);
        is("23 party(-1, 0)", x.party(-1, 0), -101);
        is("23 party(MIN, 0)", x.party(LOW, 0), -101);
        is("23 party(MAX, 0)", x.party(HIGH, 0), -101);
        x.stop(3);
        is("23 seen", x.party(0, 4), 1);
        x.stop(3);
        x.leave(0);
        is("23 gone", x.party(0, 3), 101);
        is("23 seen stays", x.party(0, 4), 1);
        is("23 persons stay", x.party(0, 0), 5);
        is("23 weight stays", x.party(0, 1), 340);
    }
}
