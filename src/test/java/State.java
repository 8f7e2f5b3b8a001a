/** The states that a refused call may meet. Objects of one state are always made alike, in some 300 calls at most. */
enum State {
    /** Nothing was done. */
    NEW,
    /** Bands of 2 by 2, none and 3 blocks of style BYPASS; what layer 0 brings is told but for one piece. */
    TOLD,
    /** Layer 0 was written and read; what layer 1 brings is told but for two pieces. */
    UNDER_WAY,
    /** The same, but reading is over. */
    OVER,
    /** 255 heads were written; a block brings two passes more, of which one piece has bytes. */
    ALL_WRITTEN,
    /** 255 heads were read, the latest of which brings passes. */
    ALL_READ;

    PacketHeads make() {
        PacketHeads x = new PacketHeads();
        if (this == NEW) {
            return x;
        }
        tellLayer0(x);
        if (this == TOLD) {
            return x;
        }
        passLayer0(x);
        switch (this) {
            case OVER -> endReading(x);
            case ALL_WRITTEN -> writeAll(x);
            case ALL_READ -> readAll(x);
            default -> { }
        }
        return x;
    }

    boolean hasBlocks() {
        return this != NEW;
    }

    static void tell(PacketHeads x, int band, int block, int passes, int... bytes) {
        x.bring(band, block, passes);
        for (int b : bytes) {
            x.piece(band, block, b);
        }
    }

    private static void tellLayer0(PacketHeads x) {
        x.put(200);
        x.put(255);
        x.begin(1);
        x.band(2, 2);
        x.band(0, 5);
        x.band(3, 1);
        x.first(0, 0, 0, 2);
        x.first(0, 1, 1, 0);
        x.first(0, 3, 0, 5);
        x.first(2, 0, 0, 1);
        x.first(2, 1, 2, 73);
        tell(x, 0, 0, 12, 70, 3);
        tell(x, 0, 3, 1, 9);
        tell(x, 2, 0, 11, 4);
    }

    private static void passLayer0(PacketHeads x) {
        x.piece(2, 0, 6);
        x.read(2, x.write());
        tell(x, 0, 1, 2, 11);
        tell(x, 0, 0, 5, 1, 300);
    }

    private static void endReading(PacketHeads x) {
        Check.unsupported("a head without bytes", () -> x.read(0, 0));
    }

    private static void writeAll(PacketHeads x) {
        x.piece(0, 0, 2);
        x.piece(0, 0, 8);
        x.write();
        tell(x, 2, 1, 1, 5);
        for (int layer = 2; layer < 255; layer++) {
            x.write();
        }
        tell(x, 0, 0, 2, 3);
    }

    private static void readAll(PacketHeads x) {
        int empty = x.put(0) - 1;
        for (int layer = 1; layer < 254; layer++) {
            x.read(empty, 1);
        }
        // Blocks 0, 1 and 2 of the first band bring a pass each, and so do 1 and 2 of the last.
        int n = new HeadBits().add("1").add("1 0 0 0101").add("1 1 0 0 001").add("1 1 0 0 010").add("0").add("0")
                .add("1 1 0 0 011").add("11 11 0 0 100").putInto(x);
        x.read(empty + 1, n);
    }
}
