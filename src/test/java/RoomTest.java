import com.sun.management.ThreadMXBean;
import java.lang.management.ManagementFactory;

/** All calls of a run live in one room: the dearest calls, as many as an object answers, make next to nothing. */
public final class RoomTest {
    // Setting up takes 17 calls; an object answers for 512.
    private static final int CALLS = 495;
    private static final long ROOM_FOR_CALLS = 100_000;
    private static final long ROOM_FOR_ONE = 20_000;

    public static void main(String[] args) {
        Check check = new Check();
        fewBytes(check);
        lastCall(check);
        check.end();
    }

    private static void fewBytes(Check check) {
        ThreadMXBean bean = (ThreadMXBean) ManagementFactory.getThreadMXBean();
        // Once beforehand, so that the loading of classes is not counted.
        dearCalls(crowdedField());
        bean.getCurrentThreadAllocatedBytes();
        long start = bean.getCurrentThreadAllocatedBytes();
        LockstepField field = crowdedField();
        long made = bean.getCurrentThreadAllocatedBytes();
        dearCalls(field);
        long end = bean.getCurrentThreadAllocatedBytes();
        check.due("bytes of one object, " + (made - start) + ", are few", made - start <= ROOM_FOR_ONE, true);
        check.due("bytes of its calls, " + (end - made) + ", are few", end - made <= ROOM_FOR_CALLS, true);
    }

    private static void lastCall(Check check) {
        check.sentence("What it is", "An object is used for at most 512 calls after it has been made");
        LockstepField field = new LockstepField();
        field.unit(0, 0);
        field.begin();
        field.command(0, 0, Scene.GO, 2);
        for (int call = 4; call <= 509; call++) {
            check.due("call " + call, field.steps(0, 63), 14);
        }
        check.due("call 510", field.run(1), 1);
        check.due("call 511", field.tile(0), 1);
        check.due("call 512", field.path(0, 0), 2);
    }

    private static LockstepField crowdedField() {
        LockstepField field = new LockstepField();
        for (int u = 0; u < 8; u++) {
            field.unit(u % 2, u);
        }
        field.begin();
        for (int u = 0; u < 8; u++) {
            field.command(0, u, 1, 63 - u);
        }
        return field;
    }

    private static void dearCalls(LockstepField field) {
        for (int i = 0; i < 10; i++) {
            field.run(20);
        }
        for (int i = 10; i < CALLS; i++) {
            if (i % 8 == 0) {
                field.steps(0, 63);
            } else {
                field.replay();
            }
        }
    }
}
