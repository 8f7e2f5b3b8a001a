import java.util.Arrays;

/**
 * Writes and reads the heads of a precinct's packets, layer by layer: which blocks come in, how many
 * planes of them are missing, how many passes they bring, and how many bytes their pieces have.
 */
public final class PacketHeads {
    public static final int NONE = -1;

    private static final int BYPASS = 1;
    private static final int EACH = 4;
    private static final int MOST_BANDS = 3;
    private static final int MOST_ALONG = 64;
    private static final int MOST_BLOCKS = 1024;
    /** 64 blocks along halve six times until one node is left. */
    private static final int MOST_LEVELS = 7;
    private static final int MOST_LAYERS = 255;
    private static final int MOST_MISSING = 73;
    private static final int MOST_BROUGHT = 164;
    private static final int MOST_PASSES = 200;
    private static final int MOST_PIECES = 4096;
    private static final int MOST_PIECE_BYTES = 65535;
    private static final int FIRST_WIDTH = 3;
    private static final int MOST_WIDTH = 32;
    private static final int NEVER = 1000;
    private static final int MOST_BYTES_TO_WRITE = 131072;
    private static final int MOST_BYTES = 262144;
    private static final int STUFFED = 255;
    /** Rows start short and double, so that small precincts take little of the run's room. */
    private static final int SHORT_ROW = 16;

    private final Store store;
    private final Bands bands;
    private final Side writing;
    private final Side reading;
    private final Sink sink;
    private final Source source;
    private boolean over;

    public PacketHeads() {
        store = new Store();
        bands = new Bands();
        writing = new Side(bands);
        reading = new Side(bands);
        sink = new Sink(store);
        source = new Source(store);
    }

    public void begin(int style) throws IllegalArgumentException {
        if (style < 0 || (style & ~(BYPASS | EACH)) != 0) {
            throw new IllegalArgumentException("no such style");
        }
        bands.restart(style);
        writing.restart();
        reading.restart();
        over = false;
    }

    public int band(int wide, int high) throws IllegalArgumentException, IllegalStateException {
        if (wide < 0 || wide > MOST_ALONG || high < 0 || high > MOST_ALONG) {
            throw new IllegalArgumentException("no such size of a band");
        }
        if (bands.blocks() + wide * high > MOST_BLOCKS) {
            throw new IllegalArgumentException("too many blocks");
        }
        if (bands.count >= MOST_BANDS || writing.layers > 0 || reading.layers > 0 || over) {
            throw new IllegalStateException("no band can be added");
        }
        int oldBlocks = bands.blocks();
        int oldNodes = bands.nodes;
        bands.add(wide, high);
        writing.welcome(oldBlocks, oldNodes);
        reading.welcome(oldBlocks, oldNodes);
        return bands.count - 1;
    }

    public void first(int band, int block, int layer, int missing)
            throws IllegalArgumentException, IllegalStateException {
        int b = blockOrThrow(band, block);
        if (layer < NONE || layer >= MOST_LAYERS) {
            throw new IllegalArgumentException("no such layer");
        }
        if (missing < 0 || missing > MOST_MISSING) {
            throw new IllegalArgumentException("no such number of missing planes");
        }
        if (writing.layers > 0) {
            throw new IllegalStateException("a head was written");
        }
        writing.in.number[bands.leaf[b]] = layer == NONE ? NEVER : layer;
        writing.out.number[bands.leaf[b]] = missing;
    }

    public int bring(int band, int block, int passes) throws IllegalArgumentException {
        int b = blockOrThrow(band, block);
        if (passes < 0 || passes > MOST_BROUGHT || writing.all[b] + passes > MOST_PASSES) {
            throw new IllegalArgumentException("no such number of passes");
        }
        if (!writing.lay(b, passes)) {
            throw new IllegalArgumentException("too many pieces");
        }
        return writing.pieces[b];
    }

    public int piece(int band, int block, int bytes) throws IllegalArgumentException, IllegalStateException {
        int b = blockOrThrow(band, block);
        if (bytes < 0 || bytes > MOST_PIECE_BYTES) {
            throw new IllegalArgumentException("no such number of bytes");
        }
        if (writing.told[b] >= writing.pieces[b]) {
            throw new IllegalStateException("all pieces have bytes told");
        }
        writing.lengths[writing.from[b] + writing.told[b]] = bytes;
        writing.told[b]++;
        return writing.told[b];
    }

    public int write() throws IllegalStateException, UnsupportedOperationException {
        if (!writing.isReady()) {
            throw new IllegalStateException("the next head can't be written");
        }
        if (store.count > MOST_BYTES_TO_WRITE) {
            throw new UnsupportedOperationException("too many bytes");
        }
        int before = store.count;
        if (writing.layers == 0) {
            writing.in.settle();
            writing.out.settle();
        }
        sink.open();
        writing.head(sink);
        sink.close();
        writing.emptyPacket();
        writing.layers++;
        return store.count - before;
    }

    public int put(int b) throws IllegalArgumentException, UnsupportedOperationException {
        if (b < 0 || b > 255) {
            throw new IllegalArgumentException("no such byte");
        }
        if (store.count >= MOST_BYTES) {
            throw new UnsupportedOperationException("too many bytes");
        }
        store.add(b);
        return store.count;
    }

    public int at(int k) throws IndexOutOfBoundsException {
        if (k == NONE) {
            return store.count;
        }
        if (k < 0 || k >= store.count) {
            throw new IndexOutOfBoundsException("no such byte");
        }
        return store.get(k);
    }

    public void clear() {
        store.count = 0;
    }

    public int read(int place, int n)
            throws IllegalArgumentException, IllegalStateException, UnsupportedOperationException {
        if (place < 0 || n < 0 || place > store.count - n) {
            throw new IllegalArgumentException("no such bytes");
        }
        if (over || reading.layers >= MOST_LAYERS) {
            throw new IllegalStateException("no head can be read");
        }
        reading.emptyPacket();
        source.open(place, n);
        boolean right = reading.head(source);
        int taken = source.close();
        if (!right || taken == NONE) {
            reading.forget(0, 0);
            over = true;
            throw new UnsupportedOperationException("the head is wrong");
        }
        reading.layers++;
        return taken;
    }

    public int got(int band, int block, int w) throws IllegalArgumentException {
        int b = blockOrThrow(band, block);
        boolean came = reading.all[b] > 0;
        switch (w) {
            case 0:
                return reading.now[b];
            case 1:
                return reading.pieces[b];
            case 2:
                return reading.all[b];
            case 3:
                return came ? reading.out.low[bands.leaf[b]] : NONE;
            case 4:
                return came ? reading.in.number[bands.leaf[b]] : NONE;
            case 5:
                return reading.width[b];
            default:
                throw new IllegalArgumentException("no such thing to ask");
        }
    }

    public int bytes(int band, int block, int i) throws IllegalArgumentException, IndexOutOfBoundsException {
        int b = blockOrThrow(band, block);
        if (i < 0 || i >= reading.pieces[b]) {
            throw new IndexOutOfBoundsException("no such piece");
        }
        return reading.lengths[reading.from[b] + i];
    }

    public int layers(int w) throws IllegalArgumentException {
        switch (w) {
            case 0:
                return writing.layers;
            case 1:
                return reading.layers;
            case 2:
                return over ? 1 : 0;
            default:
                throw new IllegalArgumentException("no such thing to ask");
        }
    }

    private int blockOrThrow(int band, int block) {
        int b = bands.find(band, block);
        if (b == NONE) {
            throw new IllegalArgumentException("no such block");
        }
        return b;
    }

    private static int[] withRoom(int[] row, int need) {
        return need <= row.length ? row : Arrays.copyOf(row, Math.max(need, 2 * row.length));
    }

    /** How many bits a number has without the 0s in front. */
    private static int bitsOf(int number) {
        int bits = 0;
        while (bits < 31 && number >> bits > 0) {
            bits++;
        }
        return bits;
    }

    /** The logarithm to the base 2, rounded down, of a number above 0. */
    private static int logOf(int number) {
        return bitsOf(number) - 1;
    }

    /** All bytes, put and written. */
    static final class Store {
        private byte[] row = new byte[SHORT_ROW];
        private int count;

        void add(int b) {
            if (count >= MOST_BYTES) {
                return;
            }
            if (count >= row.length) {
                row = Arrays.copyOf(row, 2 * row.length);
            }
            row[count] = (byte) b;
            count++;
        }

        int get(int k) {
            return k < 0 || k >= count ? 0 : row[k] & 255;
        }
    }

    /**
     * The precinct's bands. The blocks of all bands are numbered through, and so are the nodes of all
     * bands' trees: each level behind the one below it, so that a node comes before the one above it.
     */
    static final class Bands {
        private final int[] base = new int[MOST_BANDS + 1];
        private int[] leaf = new int[SHORT_ROW];
        private int[] above = new int[SHORT_ROW];
        private int count;
        private int nodes;
        private int style;

        void restart(int newStyle) {
            count = 0;
            nodes = 0;
            style = newStyle;
        }

        int blocks() {
            return base[count];
        }

        int find(int band, int block) {
            if (band < 0 || band >= count || block < 0 || block >= base[band + 1] - base[band]) {
                return NONE;
            }
            return base[band] + block;
        }

        void add(int wide, int high) {
            int blocks = blocks();
            leaf = withRoom(leaf, blocks + wide * high);
            for (int i = 0; i < wide * high; i++) {
                leaf[blocks + i] = nodes + i;
            }
            int w = wide;
            int h = high;
            for (int level = 0; level < MOST_LEVELS && w > 0 && h > 0; level++) {
                addLevel(w, h);
                if (w == 1 && h == 1) {
                    break;
                }
                w = (w + 1) / 2;
                h = (h + 1) / 2;
            }
            count++;
            base[count] = blocks + wide * high;
        }

        private void addLevel(int w, int h) {
            int next = nodes + w * h;
            boolean root = w == 1 && h == 1;
            above = withRoom(above, next);
            for (int y = 0; y < h; y++) {
                for (int x = 0; x < w; x++) {
                    above[nodes + y * w + x] = root ? NONE : next + y / 2 * ((w + 1) / 2) + x / 2;
                }
            }
            nodes = next;
        }

        boolean segmentEndsBehind(int pass) {
            if ((style & EACH) != 0) {
                return true;
            }
            if ((style & BYPASS) == 0) {
                return false;
            }
            return pass >= 9 && pass % 3 == 0 || pass >= 10 && pass % 3 == 2;
        }

        /** How many pieces the passes from one on stand in, up to the one before the end. */
        int piecesOf(int pass, int end) {
            int pieces = 0;
            for (int k = pass; k < end; k++) {
                if (k == end - 1 || segmentEndsBehind(k)) {
                    pieces++;
                }
            }
            return pieces;
        }

        /** How many passes the piece has that starts with this pass. */
        int passesOfPiece(int pass, int end) {
            for (int k = pass; k < end; k++) {
                if (segmentEndsBehind(k)) {
                    return k - pass + 1;
                }
            }
            return end - pass;
        }
    }

    /** The trees of one kind, IN or OUT, of all bands. */
    static final class Trees {
        private final Bands bands;
        private final int[] path = new int[MOST_LEVELS];
        private int[] number = new int[SHORT_ROW];
        private int[] low = new int[SHORT_ROW];
        private int[] known = new int[SHORT_ROW];

        Trees(Bands bands) {
            this.bands = bands;
        }

        void forget(int fromNode, int given) {
            number = withRoom(number, bands.nodes);
            low = withRoom(low, bands.nodes);
            known = withRoom(known, bands.nodes);
            for (int node = fromNode; node < bands.nodes; node++) {
                number[node] = given;
                low[node] = 0;
                known[node] = 0;
            }
        }

        /** Gives the nodes above the blocks their numbers; a block's number may rise until the first head. */
        void settle() {
            for (int node = 0; node < bands.nodes; node++) {
                if (bands.above[node] != NONE) {
                    number[bands.above[node]] = NEVER;
                }
            }
            for (int node = 0; node < bands.nodes; node++) {
                int above = bands.above[node];
                if (above != NONE) {
                    number[above] = Math.min(number[above], number[node]);
                }
            }
        }

        /** Tells a block's number up to a bound: whether it is known then. */
        boolean tell(int leaf, int bound, Bits bits) {
            int levels = 0;
            for (int node = leaf; node != NONE && levels < MOST_LEVELS; node = bands.above[node]) {
                path[levels] = node;
                levels++;
            }
            int least = 0;
            for (int level = levels - 1; level >= 0; level--) {
                int node = path[level];
                low[node] = Math.max(low[node], least);
                for (int k = low[node]; k < bound && known[node] == 0; k++) {
                    known[node] = bits.bit(number[node] == k ? 1 : 0);
                    low[node] = k + 1 - known[node];
                }
                least = low[node];
            }
            return known[leaf] == 1;
        }
    }

    /**
     * The bits of a head, written or read. Both go the same way: each bit is offered, and the one
     * that counts comes back; a writer takes the offer, a reader has its own.
     */
    abstract static class Bits {
        abstract int bit(int offer);

        long number(long offer, int bits) {
            long number = 0;
            for (int i = bits - 1; i >= 0; i--) {
                number = number * 2 + bit((int) (offer >> i) & 1);
            }
            return number;
        }

        int passes(int offer) {
            if (bit(offer > 1 ? 1 : 0) == 0) {
                return 1;
            }
            if (bit(offer > 2 ? 1 : 0) == 0) {
                return 2;
            }
            int behindTwo = (int) number(Math.min(offer - 3, 3), 2);
            if (behindTwo < 3) {
                return 3 + behindTwo;
            }
            int behindFive = (int) number(Math.min(offer - 6, 31), 5);
            if (behindFive < 31) {
                return 6 + behindFive;
            }
            return 37 + (int) number(offer - 37, 7);
        }
    }

    /** Bits that are written behind the bytes that there are. */
    static final class Sink extends Bits {
        private final Store store;
        private int gathered;
        private int room;

        Sink(Store store) {
            this.store = store;
        }

        void open() {
            gathered = 0;
            room = 8;
        }

        int bit(int offer) {
            room--;
            gathered = gathered * 2 + offer;
            if (room == 0) {
                store.add(gathered);
                room = gathered == STUFFED ? 7 : 8;
                gathered = 0;
            }
            return offer;
        }

        /** Behind a last byte of 255 the room is 7, so that a byte 0 comes of it. */
        void close() {
            if (room < 8) {
                store.add(gathered << room);
            }
        }
    }

    /** Bits that are read from a place on. */
    static final class Source extends Bits {
        private final Store store;
        private int start;
        private int next;
        private int end;
        private int latest;
        private int left;
        private boolean lacking;

        Source(Store store) {
            this.store = store;
        }

        void open(int place, int n) {
            start = place;
            next = place;
            end = place + n;
            latest = 0;
            left = 0;
            lacking = false;
        }

        /** Bits that lack are 0s, with which every number soon ends. */
        int bit(int offer) {
            if (left == 0) {
                takeByte();
            }
            if (lacking) {
                return 0;
            }
            left--;
            return latest >> left & 1;
        }

        private void takeByte() {
            if (next >= end) {
                lacking = true;
                return;
            }
            left = latest == STUFFED ? 7 : 8;
            latest = store.get(next);
            next++;
        }

        /** How many bytes were taken, NONE if there were too few. */
        int close() {
            if (latest == STUFFED) {
                takeByte();
            }
            return lacking ? NONE : next - start;
        }
    }

    /** One way that the heads go, written or read: what they told of each block so far. */
    static final class Side {
        private final Bands bands;
        private final Trees in;
        private final Trees out;
        private int[] width = new int[SHORT_ROW];
        private int[] all = new int[SHORT_ROW];
        private int[] now = new int[SHORT_ROW];
        private int[] from = new int[SHORT_ROW];
        private int[] pieces = new int[SHORT_ROW];
        private int[] told = new int[SHORT_ROW];
        private int[] lengths = new int[SHORT_ROW];
        private int lengthCount;
        private int layers;

        Side(Bands bands) {
            this.bands = bands;
            in = new Trees(bands);
            out = new Trees(bands);
        }

        void restart() {
            lengthCount = 0;
            layers = 0;
        }

        void welcome(int fromBlock, int fromNode) {
            int blocks = bands.blocks();
            width = withRoom(width, blocks);
            all = withRoom(all, blocks);
            now = withRoom(now, blocks);
            from = withRoom(from, blocks);
            pieces = withRoom(pieces, blocks);
            told = withRoom(told, blocks);
            forget(fromBlock, fromNode);
        }

        /** Nothing was told of the blocks from one on. */
        void forget(int fromBlock, int fromNode) {
            in.forget(fromNode, NEVER);
            out.forget(fromNode, 0);
            for (int b = fromBlock; b < bands.blocks(); b++) {
                width[b] = FIRST_WIDTH;
                all[b] = 0;
                bringNone(b);
            }
        }

        void emptyPacket() {
            for (int b = 0; b < bands.blocks(); b++) {
                bringNone(b);
            }
            lengthCount = 0;
        }

        private void bringNone(int b) {
            now[b] = 0;
            from[b] = 0;
            pieces[b] = 0;
            told[b] = 0;
        }

        /** Makes places for the pieces of a block that brings passes; false, and no change, if they are too many. */
        boolean lay(int b, int passes) {
            int count = bands.piecesOf(all[b], all[b] + passes);
            if (lengthCount - pieces[b] + count > MOST_PIECES) {
                return false;
            }
            lift(b);
            lengths = withRoom(lengths, lengthCount + count);
            now[b] = passes;
            from[b] = lengthCount;
            pieces[b] = count;
            told[b] = 0;
            lengthCount += count;
            return true;
        }

        /** Takes a block's pieces away and closes the gap, so that places never run out. */
        private void lift(int b) {
            int count = pieces[b];
            if (count == 0) {
                return;
            }
            int gap = from[b];
            System.arraycopy(lengths, gap + count, lengths, gap, lengthCount - gap - count);
            lengthCount -= count;
            for (int other = 0; other < bands.blocks(); other++) {
                if (from[other] > gap) {
                    from[other] -= count;
                }
            }
        }

        boolean isReady() {
            if (layers >= MOST_LAYERS) {
                return false;
            }
            for (int b = 0; b < bands.blocks(); b++) {
                int first = in.number[bands.leaf[b]];
                if (layers < first && now[b] > 0 || layers == first && now[b] == 0 || told[b] < pieces[b]) {
                    return false;
                }
            }
            return true;
        }

        private boolean bringsAny() {
            for (int b = 0; b < bands.blocks(); b++) {
                if (now[b] > 0) {
                    return true;
                }
            }
            return false;
        }

        /** Passes the next layer's head through the bits: false if it is wrong. */
        boolean head(Bits bits) {
            if (bits.bit(bringsAny() ? 1 : 0) == 0) {
                return true;
            }
            for (int b = 0; b < bands.blocks(); b++) {
                boolean right = !tellWhetherIn(b, bits)
                        || tellMissing(b, bits) && accept(b, bits.passes(now[b])) && tellLengths(b, bits);
                if (!right) {
                    return false;
                }
            }
            return true;
        }

        private boolean tellWhetherIn(int b, Bits bits) {
            if (all[b] > 0) {
                return bits.bit(now[b] > 0 ? 1 : 0) == 1;
            }
            return in.tell(bands.leaf[b], layers + 1, bits);
        }

        private boolean tellMissing(int b, Bits bits) {
            if (all[b] > 0) {
                return true;
            }
            // Bytes may tell a layer that is past: the block comes in now all the same.
            in.number[bands.leaf[b]] = layers;
            return out.tell(bands.leaf[b], MOST_MISSING + 1, bits);
        }

        /** What is written has been looked at and laid before, with its bytes; what is read has not. */
        private boolean accept(int b, int passes) {
            return now[b] > 0 || all[b] + passes <= MOST_PASSES && lay(b, passes);
        }

        private boolean tellLengths(int b, Bits bits) {
            int wide = widthFor(b);
            while (width[b] <= MOST_WIDTH && bits.bit(width[b] < wide ? 1 : 0) == 1) {
                width[b]++;
            }
            if (width[b] > MOST_WIDTH) {
                return false;
            }
            int end = all[b] + now[b];
            for (int i = from[b]; i < from[b] + pieces[b]; i++) {
                int passes = bands.passesOfPiece(all[b], end);
                long bytes = bits.number(lengths[i], width[b] + logOf(passes));
                if (bytes > MOST_PIECE_BYTES) {
                    return false;
                }
                lengths[i] = (int) bytes;
                all[b] += passes;
            }
            return true;
        }

        /** The least width with which the bytes of all pieces fit; one that reads does not heed it. */
        private int widthFor(int b) {
            int wide = 0;
            int pass = all[b];
            for (int i = from[b]; i < from[b] + pieces[b]; i++) {
                int passes = bands.passesOfPiece(pass, all[b] + now[b]);
                wide = Math.max(wide, bitsOf(lengths[i]) - logOf(passes));
                pass += passes;
            }
            return wide;
        }
    }
}
