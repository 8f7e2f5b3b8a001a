import java.lang.management.ManagementFactory;

/**
 * What a run of 512 calls makes stays far below its room: 7.3 million fields and elements, of which each has
 * here one byte at least, so that fewer bytes are fewer elements.
 */
public final class RoomTest {
    private static final long MOST_FOR_A_RUN = 1_000_000;
    private static final long MOST_FOR_A_NEW_OBJECT = 7_300_000 / 512;

    private static final com.sun.management.ThreadMXBean MEMORY =
            (com.sun.management.ThreadMXBean) ManagementFactory.getThreadMXBean();
    private static boolean failed = false;

    public static void main(String[] args) {
        made();
        hold("a new object", MOST_FOR_A_NEW_OBJECT, RoomTest::newObject);
        hold("precincts of 1024 blocks", MOST_FOR_A_RUN, RoomTest::precincts);
        hold("precincts that grow", MOST_FOR_A_RUN, RoomTest::growingPrecincts);
        hold("heads of 1024 blocks", MOST_FOR_A_RUN, RoomTest::heads);
        hold("pieces told again and again", MOST_FOR_A_RUN, RoomTest::pieces);
        if (failed) {
            System.exit(1);
        }
        System.out.println("all runs keep to their room");
    }

    private static long made() {
        return MEMORY.getThreadAllocatedBytes(Thread.currentThread().getId());
    }

    private static void hold(String what, long most, Runnable run) {
        run.run();
        long before = made();
        run.run();
        long bytes = made() - before;
        if (bytes > most) {
            failed = true;
            System.out.println(what + " made " + bytes + " bytes, due are " + most + " at most");
        }
    }

    private static void newObject() {
        new PacketHeads();
    }

    private static void precincts() {
        PacketHeads x = new PacketHeads();
        for (int i = 0; i < 170; i++) {
            x.begin(5);
            x.band(64, 16);
            x.write();
        }
    }

    private static void growingPrecincts() {
        PacketHeads x = new PacketHeads();
        for (int i = 0; i < 256; i++) {
            x.begin(0);
            x.band(1 + i / 4, 16);
        }
    }

    private static void heads() {
        PacketHeads x = new PacketHeads();
        x.band(32, 32);
        x.put(128);
        for (int i = 0; i < 255; i++) {
            x.write();
            x.read(1, 1);
        }
    }

    private static void pieces() {
        PacketHeads x = new PacketHeads();
        x.begin(4);
        x.band(5, 5);
        for (int i = 0; i < 500; i++) {
            x.bring(0, i % 24, 164);
        }
    }
}
