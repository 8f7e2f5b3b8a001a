/**
 * An object that has the bytes of a head with more than 4000 pieces, made in so few calls that it can still be asked
 * within its 512: most of the bytes are heads written before, whose bits are read as the bytes of pieces.
 */
final class ManyPieces {
    static final int BLOCKS = 25;
    private static final int EACH = 4;
    /** So many bytes come of five calls: two heads of a byte 0, and one of 57. */
    private static final int WRITTEN = 57;
    private static final int AT_ONCE = 2 + WRITTEN;
    private static final String BITS_AT_ONCE = "0".repeat(16) + "11" + "0".repeat(8 * WRITTEN - 2);

    final PacketHeads x = new PacketHeads();
    private final StringBuilder[] lengths = new StringBuilder[BLOCKS];
    private final int last;
    private int calls = 0;
    private int latest = 0;

    /** In a row of 25, 24 blocks bring 164 passes and the last one some, each of them a piece. */
    ManyPieces(int last) {
        this.last = last;
        beginHeads();
        String open = "1";
        for (int b = 0; b < BLOCKS; b++) {
            lengths[b] = new StringBuilder();
            String count = Integer.toBinaryString(128 + passes(b) - 37).substring(1);
            put(b, open + "1".repeat(2 * freshNodes(b)) + "111111111" + count + "0");
            open = fill(b);
        }
        put(BLOCKS - 1, open);
        x.begin(EACH);
        x.band(BLOCKS, 1);
        calls += 2;
    }

    int passes(int b) {
        return b < BLOCKS - 1 ? 164 : last;
    }

    /** How many bytes a piece of a block has, which are three bits of the head. */
    int bytes(int b, int piece) {
        return Integer.parseInt(lengths[b].substring(3 * piece, 3 * piece + 3), 2);
    }

    int calls() {
        return calls;
    }

    /** How many nodes on the way to a block of a row of 25 don't stand on the way to one before it. */
    static int freshNodes(int b) {
        int fresh = 0;
        for (int level = 0; level < 6; level++) {
            fresh += b == 0 || b >> level != b - 1 >> level ? 1 : 0;
        }
        return fresh;
    }

    /** With 16 blocks in, far from each other, 144 nodes are told in each later head, all with 0s. */
    private void beginHeads() {
        x.begin(0);
        x.band(32, 32);
        for (int i = 0; i < 16; i++) {
            int b = i / 4 * 8 * 32 + i % 4 * 8;
            x.first(0, b, 0, 0);
            x.bring(0, b, 1);
            x.piece(0, b, 0);
        }
        x.write();
        x.clear();
        calls += 2 + 3 * 16 + 2;
    }

    /** Puts bits, and 0s to fill the last byte: these are the first ones of the block's pieces. */
    private void put(int b, String bits) {
        for (int from = 0; from < bits.length() || latest == 255;) {
            int room = latest == 255 ? 7 : 8;
            String some = bits.substring(from, Math.min(bits.length(), from + room));
            String fill = "0".repeat(room - some.length());
            lengths[b].append(fill);
            latest = Integer.parseInt(some + fill, 2);
            x.put(latest);
            calls++;
            from += some.length();
        }
    }

    /** Fills whole bytes with the bits of a block's pieces: those that are left. */
    private String fill(int b) {
        int bits = 3 * passes(b) - lengths[b].length();
        for (int left = bits / 8; left > 0;) {
            if (left >= AT_ONCE) {
                writeThree();
                lengths[b].append(BITS_AT_ONCE);
                left -= AT_ONCE;
            } else {
                x.put(0);
                calls++;
                lengths[b].append("00000000");
                left--;
            }
        }
        String open = "0".repeat(bits % 8);
        lengths[b].append(open);
        return open;
    }

    private void writeThree() {
        Check.is("a head in which no block brings a pass", x.write(), 1);
        Check.is("and the next one", x.write(), 1);
        x.bring(0, 0, 1);
        x.piece(0, 0, 0);
        Check.is("a head that tells 144 nodes for three layers", x.write(), WRITTEN);
        calls += 5;
    }
}
