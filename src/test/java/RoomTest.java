import com.sun.management.ThreadMXBean;
import java.lang.management.ManagementFactory;

/** That calls make no objects, so that all calls of a run fit into its room, and how much one new object takes. */
public final class RoomTest {
    private static final Check CHECK = new Check("RoomTest");
    // what looking itself may take
    private static final long SLACK = 4096;
    private static final long MOST_OF_ONE = 40000;

    public static void main(String[] args) {
        if (!(ManagementFactory.getThreadMXBean() instanceof ThreadMXBean)) {
            System.out.println("RoomTest: this machine does not tell what is taken");
            return;
        }
        ThreadMXBean machine = (ThreadMXBean) ManagementFactory.getThreadMXBean();
        callAll(new EvenWheel(), 0);
        EvenWheel[] wheels = new EvenWheel[20];
        for (int i = 0; i < wheels.length; i++) {
            wheels[i] = new EvenWheel();
        }
        long before = machine.getCurrentThreadAllocatedBytes();
        wheels[0] = new EvenWheel();
        long behind = machine.getCurrentThreadAllocatedBytes();
        CHECK.that("one object takes " + (behind - before) + " bytes", behind - before < MOST_OF_ONE);
        before = machine.getCurrentThreadAllocatedBytes();
        for (int i = 0; i < 5 * wheels.length; i++) {
            callAll(wheels[i % wheels.length], i);
        }
        behind = machine.getCurrentThreadAllocatedBytes();
        CHECK.that("calls take " + (behind - before) + " bytes", behind - before < SLACK);
        CHECK.end();
    }

    private static void callAll(EvenWheel x, int i) {
        x.build(i % 2 == 0 ? 30 : 6);
        for (int k = 0; k < 6; k++) {
            x.come(1 + k, 50, 60, 70, k % 4);
            x.fill();
            x.stop(1);
        }
        x.rule(i % 4, 100);
        x.rule(0, 60000);
        x.drive(i % 2 == 0);
        x.may(0);
        x.next();
        x.leave(1);
        x.tire(0);
        x.party(0, 1);
        x.order(0);
        x.ordered(0);
        x.cost(i);
        x.note(0, 3);
        x.note(2, 0);
        x.up(3, 0);
        x.begins();
        x.guess(0, 5, 800);
        x.read(1, x.lean(1), 70);
        x.read(2, x.lean(2), 70);
        x.fit(0, 0);
        x.breaks();
        x.agree();
        x.digest();
        x.stranded();
        x.roll();
        x.letOut();
        x.greatest();
        x.worst();
        x.tear();
        x.forget();
    }
}
