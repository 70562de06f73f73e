/** Promise 40: digest. */
public final class DigestTest {
    private static final Check CHECK = new Check("DigestTest");

    private static long h;

    public static void main(String[] args) {
        newObject();
        all();
        eachCounts();
        refusalsChangeNothing();
        CHECK.end();
    }

    private static void mix(long... numbers) {
        for (long number : numbers) {
            h = 31 * h + number;
        }
    }

    private static void newObject() {
        h = 211;
        mix(6, 0, 0, 0, 0, 1, 60000, 3000, 20, 5);
        for (int c = 0; c < 6; c++) {
            mix(0, 900);
        }
        CHECK.is("40 digest() of a new object", new EvenWheel().digest(), h);
    }

    private static EvenWheel used() {
        EvenWheel x = new EvenWheel();
        x.build(10);
        x.rule(0, 50000);
        x.rule(1, 2000);
        x.rule(2, 30);
        x.rule(3, 4);
        x.come(2, 60, 70, 80, 0);
        x.come(6, 60, 70, 80, 1);
        x.come(1, 60, 70, 80, 2);
        x.come(1, 90, 70, 80, 3);
        x.fill();
        x.stop(5);
        x.tire(1);
        x.stop(3);
        x.note(1, 7);
        x.note(2, 0);
        x.guess(4, 10, 20);
        x.read(3, -77, 5);
        x.read(9, 88, 6);
        x.drive(false);
        return x;
    }

    private static void all() {
        EvenWheel x = used();
        h = 211;
        // three steps by the brake: 190 times 59, 95 and 95 by 100
        mix(10, 8, 112 + 180 + 180, 8, 4, 0, 50000, 2000, 30, 4);
        mix(2, 130, 0, 0, 1, 0);
        mix(6, 420, 1, 100, 0, 1);
        mix(1, 60, 2, 0, 1, 0);
        mix(1, 90, 3, 101, 0, 0);
        mix(1);
        mix(0, 2);
        mix(1, 7, 2, 0);
        for (int c = 0; c < 10; c++) {
            mix(c == 4 ? 10 : 0, c == 4 ? 20 : 900);
        }
        mix(3, -77, 5, 9, 88, 6);
        CHECK.is("40 digest()", x.digest(), h);
        CHECK.is("40 digest() again", x.digest(), h);
    }

    private static void differs(String what, EvenWheel x) {
        CHECK.that("40 digest() tells " + what, x.digest() != used().digest());
    }

    private static void eachCounts() {
        EvenWheel x = used();
        x.drive(true);
        differs("THE DRIVE", x);
        x = used();
        x.rule(3, 5);
        differs("PATIENCE", x);
        x = used();
        x.tire(0);
        differs("who waits", x);
        x = used();
        x.note(0, 0);
        differs("a NOTE", x);
        x = used();
        x.guess(9, 0, 899);
        differs("the last GUESS", x);
        x = used();
        x.forget();
        differs("READINGS", x);
        x = used();
        x.roll();
        differs("THE TURN", x);
        x = used();
        x.letOut();
        differs("who got off", x);
    }

    private static void refusalsChangeNothing() {
        EvenWheel x = used();
        x.rule(0, 0);
        long before = x.digest();
        x.build(7);
        x.arm(10);
        x.told(9);
        x.rule(4, 1);
        x.rule(0, -1);
        x.lean(10);
        x.load(10);
        x.cabin(10, 0);
        x.inside(10, 0);
        x.step();
        x.stop(61);
        x.come(0, 60, 60, 60, 0);
        x.may(9);
        x.tire(9);
        x.leave(3);
        x.party(4, 0);
        x.order(2);
        x.cost(-1);
        x.note(2, 1);
        x.up(61, 0);
        x.guess(10, 0, 0);
        x.guess(0, 1, 0);
        x.read(10, 0, 0);
        x.read(0, 0, -1);
        x.fit(10, 0);
        CHECK.unchanged("all that refuse", x, before);
        x.greatest();
        x.worst();
        x.why();
        x.waits(0);
        x.order(0);
        x.ordered(0);
        x.stranded();
        x.begins();
        x.breaks();
        x.agree();
        x.up(3, 0);
        x.fit(0, 0);
        CHECK.unchanged("all that only tell", x, before);
    }
}
