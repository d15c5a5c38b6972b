import java.lang.management.ManagementFactory;

/** All calls of a run live in one room: the rows are made with the object, and a call makes nothing new. */
public final class RoomTest {
    private static final com.sun.management.ThreadMXBean THREADS =
        (com.sun.management.ThreadMXBean) ManagementFactory.getThreadMXBean();

    public static void main(String[] args) {
        long self = Thread.currentThread().getId();
        int good = talks(new PasswordGate(1), 2);
        long start = THREADS.getThreadAllocatedBytes(self);
        PasswordGate gate = new PasswordGate(2);
        long made = THREADS.getThreadAllocatedBytes(self);
        good += talks(gate, 84);
        long used = THREADS.getThreadAllocatedBytes(self);
        System.out.println("RoomTest: an object takes " + (made - start) + " bytes, 506 calls " + (used - made));
        if (good != 86 || made - start > 100_000 || used - made > 10_000) {
            System.out.println("RoomTest: more than is due, or a talk did not end well: " + good);
            System.exit(1);
        }
    }

    /** Six calls each, one user enrolled first. */
    private static int talks(PasswordGate gate, int n) {
        gate.feed(1, 2, 3, 4, 5);
        gate.enroll(3);
        int good = 0;
        for (int i = 0; i < n; i++) {
            gate.feed(1, 2, 3, 4, 5);
            gate.begin(i & 3, 3);
            gate.answer(i & 3);
            gate.finish(i & 3);
            good += gate.accept(i & 3) == 0 ? 1 : 0;
            gate.group();
        }
        return good;
    }
}
