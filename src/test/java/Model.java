import java.util.ArrayList;
import java.util.List;

/**
 * The document once more, in its plainest form and without thrift: bits are texts, nodes look their
 * numbers up block by block, and reading is written apart from writing. RandomRunsTest holds PacketHeads to it.
 */
final class Model {
    private static final class Wrong extends RuntimeException {
        private static final long serialVersionUID = 1L;
    }

    /** One tree; level 0 has the blocks. */
    private static final class Tree {
        final int wide;
        final int high;
        final int[] numbers;
        final List<int[]> low = new ArrayList<>();
        final List<boolean[]> known = new ArrayList<>();

        Tree(int wide, int high, int number) {
            this.wide = wide;
            this.high = high;
            numbers = new int[wide * high];
            java.util.Arrays.fill(numbers, number);
            if (wide * high == 0) {
                return;
            }
            for (int level = 0; ; level++) {
                low.add(new int[across(level) * down(level)]);
                known.add(new boolean[across(level) * down(level)]);
                if (across(level) == 1 && down(level) == 1) {
                    break;
                }
            }
        }

        int across(int level) {
            return (wide + (1 << level) - 1) >> level;
        }

        int down(int level) {
            return (high + (1 << level) - 1) >> level;
        }

        int node(int block, int level) {
            return ((block / wide) >> level) * across(level) + ((block % wide) >> level);
        }

        int number(int node, int level) {
            int least = Integer.MAX_VALUE;
            for (int block = 0; block < numbers.length; block++) {
                if (node(block, level) == node) {
                    least = Math.min(least, numbers[block]);
                }
            }
            return least;
        }

        boolean knows(int block) {
            return known.get(0)[block];
        }

        private void raise(int level, int block) {
            if (level + 1 < low.size()) {
                int node = node(block, level);
                low.get(level)[node] = Math.max(low.get(level)[node], low.get(level + 1)[node(block, level + 1)]);
            }
        }

        void write(int block, int bound, StringBuilder bits) {
            for (int level = low.size() - 1; level >= 0; level--) {
                raise(level, block);
                int node = node(block, level);
                int number = number(node, level);
                while (low.get(level)[node] < bound && !known.get(level)[node]) {
                    if (number == low.get(level)[node]) {
                        bits.append('1');
                        known.get(level)[node] = true;
                    } else {
                        bits.append('0');
                        low.get(level)[node]++;
                    }
                }
            }
        }

        void read(int block, int bound, Reader bits) {
            for (int level = low.size() - 1; level >= 0; level--) {
                raise(level, block);
                int node = node(block, level);
                while (low.get(level)[node] < bound && !known.get(level)[node]) {
                    if (bits.next() == 1) {
                        known.get(level)[node] = true;
                    } else {
                        low.get(level)[node]++;
                    }
                }
            }
        }
    }

    private static final class Reader {
        final List<Integer> bytes;
        int taken;
        String waiting = "";

        Reader(List<Integer> bytes) {
            this.bytes = bytes;
        }

        int take() {
            if (taken == bytes.size()) {
                throw new Wrong();
            }
            return bytes.get(taken++);
        }

        int next() {
            if (waiting.isEmpty()) {
                boolean stuffed = taken > 0 && bytes.get(taken - 1) == 255;
                String eight = Integer.toBinaryString(256 + take()).substring(1);
                waiting = stuffed ? eight.substring(1) : eight;
            }
            int bit = waiting.charAt(0) - '0';
            waiting = waiting.substring(1);
            return bit;
        }

        long number(int bits) {
            long number = 0;
            for (int i = 0; i < bits; i++) {
                number = 2 * number + next();
            }
            return number;
        }

        int end() {
            if (bytes.get(taken - 1) == 255) {
                take();
            }
            return taken;
        }
    }

    private static final class Block {
        int firstLayer = 1000;
        int width = 3;
        int before;
        int passes;
        List<Integer> sizes = new ArrayList<>();
        List<Integer> told = new ArrayList<>();
        int wayIn = -1;
        int missing = -1;
        int readWidth = 3;
        int readAll;
        int readNow;
        List<Integer> read = new ArrayList<>();
    }

    private static final class Band {
        final List<Block> blocks = new ArrayList<>();
        final Tree in;
        final Tree out;
        Tree readIn;
        Tree readOut;
        final int wide;
        final int high;

        Band(int wide, int high) {
            this.wide = wide;
            this.high = high;
            in = new Tree(wide, high, 1000);
            out = new Tree(wide, high, 0);
            readIn = new Tree(wide, high, 0);
            readOut = new Tree(wide, high, 0);
            for (int i = 0; i < wide * high; i++) {
                blocks.add(new Block());
            }
        }
    }

    private int style;
    private List<Band> bands = new ArrayList<>();
    private final List<Integer> bytes = new ArrayList<>();
    private int written;
    private int read;
    private boolean over;

    void begin(int style) {
        if (style != 0 && style != 1 && style != 4 && style != 5) {
            throw new IllegalArgumentException();
        }
        this.style = style;
        bands = new ArrayList<>();
        written = 0;
        read = 0;
        over = false;
    }

    int band(int wide, int high) {
        if (wide < 0 || wide > 64 || high < 0 || high > 64) {
            throw new IllegalArgumentException();
        }
        int blocks = wide * high;
        for (Band band : bands) {
            blocks += band.blocks.size();
        }
        if (blocks > 1024) {
            throw new IllegalArgumentException();
        }
        if (bands.size() == 3 || written > 0 || read > 0 || over) {
            throw new IllegalStateException();
        }
        bands.add(new Band(wide, high));
        return bands.size() - 1;
    }

    private Block block(int band, int block) {
        if (band < 0 || band >= bands.size() || block < 0 || block >= bands.get(band).blocks.size()) {
            throw new IllegalArgumentException();
        }
        return bands.get(band).blocks.get(block);
    }

    void first(int band, int block, int layer, int missing) {
        Block it = block(band, block);
        if (layer < -1 || layer > 254 || missing < 0 || missing > 73) {
            throw new IllegalArgumentException();
        }
        if (written > 0) {
            throw new IllegalStateException();
        }
        it.firstLayer = layer == -1 ? 1000 : layer;
        bands.get(band).in.numbers[block] = it.firstLayer;
        bands.get(band).out.numbers[block] = missing;
    }

    /** The passes of each piece. */
    private List<Integer> sizes(int before, int passes) {
        List<Integer> sizes = new ArrayList<>();
        int size = 0;
        for (int k = before; k < before + passes; k++) {
            size++;
            boolean bypassEnd = k >= 9 && k % 3 == 0 || k >= 10 && k % 3 == 2;
            if (style >= 4 || style % 2 == 1 && bypassEnd || k == before + passes - 1) {
                sizes.add(size);
                size = 0;
            }
        }
        return sizes;
    }

    int bring(int band, int block, int passes) {
        Block it = block(band, block);
        if (passes < 0 || passes > 164 || it.before + passes > 200) {
            throw new IllegalArgumentException();
        }
        List<Integer> sizes = sizes(it.before, passes);
        int pieces = sizes.size() - it.sizes.size();
        for (Band other : bands) {
            for (Block one : other.blocks) {
                pieces += one.sizes.size();
            }
        }
        if (pieces > 4096) {
            throw new IllegalArgumentException();
        }
        it.passes = passes;
        it.sizes = sizes;
        it.told = new ArrayList<>();
        return sizes.size();
    }

    int piece(int band, int block, int length) {
        Block it = block(band, block);
        if (length < 0 || length > 65535) {
            throw new IllegalArgumentException();
        }
        if (it.told.size() == it.sizes.size()) {
            throw new IllegalStateException();
        }
        it.told.add(length);
        return it.told.size();
    }

    int write() {
        boolean any = false;
        if (written == 255) {
            throw new IllegalStateException();
        }
        for (Band band : bands) {
            for (Block it : band.blocks) {
                any |= it.passes > 0;
                boolean early = written < it.firstLayer && it.passes > 0;
                boolean late = written == it.firstLayer && it.passes == 0;
                if (early || late || it.told.size() < it.sizes.size()) {
                    throw new IllegalStateException();
                }
            }
        }
        if (bytes.size() > 131072) {
            throw new UnsupportedOperationException();
        }
        StringBuilder bits = new StringBuilder(any ? "1" : "0");
        for (Band band : bands) {
            for (int b = 0; any && b < band.blocks.size(); b++) {
                writeBlock(band, b, bits);
            }
        }
        written++;
        return pack(bits.toString());
    }

    private void writeBlock(Band band, int b, StringBuilder bits) {
        Block it = band.blocks.get(b);
        if (it.firstLayer >= written) {
            band.in.write(b, written + 1, bits);
        } else {
            bits.append(it.passes > 0 ? '1' : '0');
        }
        if (it.passes == 0) {
            return;
        }
        if (it.firstLayer == written) {
            band.out.write(b, 74, bits);
        }
        bits.append(passCode(it.passes));
        for (boolean fits = false; !fits; ) {
            fits = true;
            for (int i = 0; i < it.told.size(); i++) {
                fits &= it.told.get(i) < 1L << it.width + log(it.sizes.get(i));
            }
            bits.append(fits ? '0' : '1');
            it.width += fits ? 0 : 1;
        }
        for (int i = 0; i < it.told.size(); i++) {
            bits.append(binary(it.told.get(i), it.width + log(it.sizes.get(i))));
        }
        it.before += it.passes;
        it.passes = 0;
        it.sizes = new ArrayList<>();
        it.told = new ArrayList<>();
    }

    private static int log(int passes) {
        return (int) Math.floor(Math.log(passes) / Math.log(2) + 1e-9);
    }

    private static String binary(int number, int bits) {
        StringBuilder text = new StringBuilder(Integer.toBinaryString(number));
        while (text.length() < bits) {
            text.insert(0, '0');
        }
        return bits == 0 ? "" : text.toString();
    }

    private static String passCode(int passes) {
        if (passes == 1) {
            return "0";
        }
        if (passes == 2) {
            return "10";
        }
        if (passes <= 5) {
            return "11" + binary(passes - 3, 2);
        }
        return passes <= 36 ? "1111" + binary(passes - 6, 5) : "111111111" + binary(passes - 37, 7);
    }

    private int pack(String bits) {
        int before = bytes.size();
        int latest = 0;
        for (int i = 0; i < bits.length(); ) {
            int take = latest == 255 ? 7 : 8;
            String chunk = bits.substring(i, Math.min(bits.length(), i + take));
            i += take;
            while (chunk.length() < take) {
                chunk = chunk + "0";
            }
            latest = Integer.parseInt(chunk, 2);
            bytes.add(latest);
        }
        if (latest == 255) {
            bytes.add(0);
        }
        return bytes.size() - before;
    }

    int put(int b) {
        if (b < 0 || b > 255) {
            throw new IllegalArgumentException();
        }
        if (bytes.size() == 262144) {
            throw new UnsupportedOperationException();
        }
        bytes.add(b);
        return bytes.size();
    }

    int at(int k) {
        if (k == -1) {
            return bytes.size();
        }
        if (k < 0 || k >= bytes.size()) {
            throw new IndexOutOfBoundsException();
        }
        return bytes.get(k);
    }

    void clear() {
        bytes.clear();
    }

    int read(int place, int n) {
        if (place < 0 || n < 0 || (long) place + n > bytes.size()) {
            throw new IllegalArgumentException();
        }
        if (over || read == 255) {
            throw new IllegalStateException();
        }
        try {
            int taken = readHead(new Reader(new ArrayList<>(bytes.subList(place, place + n))));
            read++;
            return taken;
        } catch (Wrong e) {
            over = true;
            forgetRead();
        }
        throw new UnsupportedOperationException();
    }

    private void forgetRead() {
        for (Band band : bands) {
            band.readIn = new Tree(band.wide, band.high, 0);
            band.readOut = new Tree(band.wide, band.high, 0);
            for (Block it : band.blocks) {
                it.wayIn = -1;
                it.missing = -1;
                it.readWidth = 3;
                it.readAll = 0;
                it.readNow = 0;
                it.read = new ArrayList<>();
            }
        }
    }

    private int readHead(Reader bits) {
        boolean any = bits.next() == 1;
        int pieces = 0;
        for (Band band : bands) {
            for (int b = 0; b < band.blocks.size(); b++) {
                band.blocks.get(b).readNow = 0;
                band.blocks.get(b).read = new ArrayList<>();
                if (any) {
                    readBlock(band, b, bits);
                }
                pieces += band.blocks.get(b).read.size();
                if (pieces > 4096) {
                    throw new Wrong();
                }
            }
        }
        return bits.end();
    }

    private void readBlock(Band band, int b, Reader bits) {
        Block it = band.blocks.get(b);
        if (it.wayIn == -1) {
            band.readIn.read(b, read + 1, bits);
            if (!band.readIn.knows(b)) {
                return;
            }
            it.wayIn = read;
            band.readOut.read(b, 74, bits);
            if (!band.readOut.knows(b)) {
                throw new Wrong();
            }
            it.missing = band.readOut.low.get(0)[b];
        } else if (bits.next() == 0) {
            return;
        }
        it.readNow = readPasses(bits);
        if (it.readAll + it.readNow > 200) {
            throw new Wrong();
        }
        while (bits.next() == 1) {
            it.readWidth++;
            if (it.readWidth > 32) {
                throw new Wrong();
            }
        }
        for (int size : sizes(it.readAll, it.readNow)) {
            long length = bits.number(it.readWidth + log(size));
            if (length > 65535) {
                throw new Wrong();
            }
            it.read.add((int) length);
        }
        it.readAll += it.readNow;
    }

    private static int readPasses(Reader bits) {
        int ones = 0;
        while (ones < 9 && bits.next() == 1) {
            ones++;
            if (ones == 2) {
                int more = (int) bits.number(2);
                if (more < 3) {
                    return 3 + more;
                }
                int yetMore = (int) bits.number(5);
                return yetMore < 31 ? 6 + yetMore : 37 + (int) bits.number(7);
            }
        }
        return ones + 1;
    }

    int got(int band, int block, int w) {
        Block it = block(band, block);
        int[] answers = {it.readNow, it.read.size(), it.readAll, it.missing, it.wayIn, it.readWidth};
        if (w < 0 || w > 5) {
            throw new IllegalArgumentException();
        }
        return answers[w];
    }

    int bytes(int band, int block, int i) {
        Block it = block(band, block);
        if (i < 0 || i >= it.read.size()) {
            throw new IndexOutOfBoundsException();
        }
        return it.read.get(i);
    }

    int layers(int w) {
        if (w < 0 || w > 2) {
            throw new IllegalArgumentException();
        }
        return w == 0 ? written : w == 1 ? read : over ? 1 : 0;
    }
}
