import java.util.function.IntSupplier;

/**
 * Asks an object for all that it tells, and drives it on, so that what it has inside comes to light: the answers
 * are a text. Two objects of which one knows something else answer with another text.
 */
final class Probe {
    /** So few that an object made by State stays within the 512 calls for which it is promised. */
    private static final int MOST_CALLS = 200;
    private static final int BANDS = 3;
    private static final int BLOCKS = 4;

    enum Way {
        LOOK, GROW, WRITE, READ
    }

    private final PacketHeads x;
    private final StringBuilder log = new StringBuilder();
    private int calls;
    private int shown;

    private Probe(PacketHeads x) {
        this.x = x;
    }

    static String answers(PacketHeads x, Way way) {
        Probe probe = new Probe(x);
        switch (way) {
            case LOOK -> probe.look();
            case GROW -> probe.grow();
            case WRITE -> probe.writeOn();
            default -> probe.readOn();
        }
        return probe.log.toString();
    }

    /** Whether the call went through. */
    private boolean ask(String name, IntSupplier call) {
        if (calls >= MOST_CALLS) {
            return false;
        }
        calls++;
        log.append(name).append(" = ");
        try {
            log.append(call.getAsInt()).append('\n');
            return true;
        } catch (RuntimeException e) {
            log.append("throws.").append(e.getClass().getSimpleName()).append('\n');
            return false;
        }
    }

    private void look() {
        for (int w = 0; w < 3; w++) {
            int which = w;
            ask("layers(" + w + ")", () -> x.layers(which));
        }
        showBytes();
        lookAtBlocks();
    }

    private void showBytes() {
        ask("at(NONE)", () -> x.at(PacketHeads.NONE));
        while (shown < 60) {
            int k = shown;
            if (!ask("at(" + k + ")", () -> x.at(k))) {
                break;
            }
            shown++;
        }
    }

    private void lookAtBlocks() {
        for (int band = 0; band < BANDS; band++) {
            for (int block = 0; block < BLOCKS; block++) {
                if (!lookAt(band, block)) {
                    break;
                }
            }
        }
    }

    private boolean lookAt(int band, int block) {
        for (int w = 0; w < 6; w++) {
            int which = w;
            if (!ask("got(" + band + ", " + block + ", " + w + ")", () -> x.got(band, block, which))) {
                return false;
            }
        }
        for (int i = 0; i < 4; i++) {
            int piece = i;
            if (!ask("bytes(" + band + ", " + block + ", " + i + ")", () -> x.bytes(band, block, piece))) {
                break;
            }
        }
        return true;
    }

    private void bring(int band, int block, int passes) {
        ask("bring(" + band + ", " + block + ", " + passes + ")", () -> x.bring(band, block, passes));
    }

    private boolean piece(int band, int block, int bytes) {
        return ask("piece(" + band + ", " + block + ", " + bytes + ")", () -> x.piece(band, block, bytes));
    }

    private void tellAllPieces() {
        for (int band = 0; band < BANDS; band++) {
            for (int block = 0; block < BLOCKS; block++) {
                for (int i = 0; i < 40 && piece(band, block, 5 + i); i++) {
                    log.append("  so far ").append(i).append('\n');
                }
            }
        }
    }

    private void write() {
        ask("write()", x::write);
        showBytes();
    }

    /** A block and a band more, if they can be, and what comes of them. */
    private void grow() {
        bring(0, 2, 30);
        ask("band(1, 2)", () -> x.band(1, 2));
        ask("first(0, 2, 0, 4)", () -> {
            x.first(0, 2, 0, 4);
            return 0;
        });
        tellAllPieces();
        write();
    }

    /** What is told so far is written; then each block by itself comes next, if it can. */
    private void writeOn() {
        tellAllPieces();
        write();
        for (int band = 0; band < BANDS; band++) {
            for (int block = 0; block < BLOCKS; block++) {
                bring(band, block, 1);
                piece(band, block, 6);
                if (!ask("write()", x::write)) {
                    bring(band, block, 0);
                }
            }
        }
        showBytes();
    }

    private void readOn() {
        int place = x.at(PacketHeads.NONE);
        for (int b : new int[] {0, 0b10100110, 0b01001101, 0b11010000, 0b00100110, 0b00000000, 0b00000000}) {
            ask("put(" + b + ")", () -> x.put(b));
        }
        ask("an empty head", () -> x.read(place, 1));
        ask("a head", () -> x.read(place + 1, 6));
        lookAtBlocks();
        for (int w = 0; w < 3; w++) {
            int which = w;
            ask("layers(" + w + ")", () -> x.layers(which));
        }
    }
}
