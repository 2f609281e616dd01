import java.lang.management.ManagementFactory;

/** A run has one room for all its calls: only the constructor may make anything. */
public final class RoomTest {
    // An object is used for at most 512 calls: a round has some 90.
    private static final int OBJECTS = 80, ROUNDS = 5;
    private static final long BYTES_OF_AN_OBJECT = 100000;

    public static void main(String[] args) {
        com.sun.management.ThreadMXBean room =
                (com.sun.management.ThreadMXBean) ManagementFactory.getThreadMXBean();
        long id = Thread.currentThread().getId();
        allCalls(new RiverTuesdays(), 0);
        RiverTuesdays[] all = new RiverTuesdays[OBJECTS];
        room.getThreadAllocatedBytes(id);
        long before = room.getThreadAllocatedBytes(id);
        for (int n = 0; n < OBJECTS; n++) {
            all[n] = new RiverTuesdays();
        }
        long made = room.getThreadAllocatedBytes(id);
        for (int n = 0; n < OBJECTS * ROUNDS; n++) {
            allCalls(all[n / ROUNDS], n);
        }
        long after = room.getThreadAllocatedBytes(id);
        Due.is("objects are too large by",
                Math.max(0, made - before - OBJECTS * BYTES_OF_AN_OBJECT), 0);
        Due.is("calls make too much by", Math.max(0, after - made - 4000), 0);
        Due.end("RoomTest");
    }

    private static void allCalls(RiverTuesdays x, int n) {
        x.text(0, 60);
        x.put(0, 0, 'q');
        x.put(0, 1, '6');
        x.put(0, 2, '1');
        for (int i = 0; i < 8; i++) {
            x.put(0, 4 + 5 * i, "mswldhsw".charAt(i));
            x.put(0, 5 + 5 * i, '8' - i);
            x.put(0, 6 + 5 * i, '1');
            x.put(0, 7 + 5 * i, '3');
        }
        x.fault(0);
        x.street(0);
        x.tuesday(n % 256);
        x.undo(5);
        x.hour(1);
        x.keep(n % 3);
        x.on(n % 3);
        plans(x, n % 256);
        x.row(1, 6);
        x.row(2, 6);
        for (int i = 0; i < 6; i++) {
            x.lay(1, i, 1 + (n + i) % 24);
            x.lay(2, i, (n * 7 + i) % 100);
        }
        x.copy(1, 0, 2, 1, 2);
        x.work(1, 2, 3);
        x.done(1, 2);
        x.mean(1);
        x.calendar(n, 30, 3, 4);
        x.upper();
        x.lower();
        x.digest();
        x.tear(4);
        x.at(4, 0);
    }

    private static void plans(RiverTuesdays x, int plan) {
        x.harm(plan);
        x.wet(plan);
        x.when(plan, 1);
        x.cut(plan, 2);
        x.boat(plan, 3, 0, 1);
        x.trade(plan);
        x.stands(plan);
        x.most(plan % 9);
        x.least(plan % 20);
        x.dry();
        x.marks(plan, 4);
        x.lay(4, 0, RiverTuesdays.NONE);
        x.led(4);
        x.sure(4);
        x.look(4);
        x.raise(plan, 5);
        x.whose(plan);
        x.years(2, 1 + plan);
        x.mark(0, 1);
    }
}
