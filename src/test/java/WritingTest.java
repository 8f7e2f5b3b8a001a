/** Promises 1 to 10: a new object, begin, band, first, bring, piece, write, put, at and clear. */
public final class WritingTest {
    private static final int NONE = PacketHeads.NONE;
    private static final int LEAST = Integer.MIN_VALUE;
    private static final int MOST = Integer.MAX_VALUE;

    public static void main(String[] args) {
        newObject();
        begin();
        beginForgets();
        band();
        bandStates();
        first();
        firstToldAgain();
        bring();
        bringPassesInAll();
        bringPiecesInAll();
        bringMovesNoOtherPieces();
        piece();
        writeStates();
        writeLayers();
        writeUsesUp();
        writeTrees();
        writeTreesOfManyLevels();
        writeBands();
        writePassCounts();
        writeWidths();
        writeStuffing();
        writeLast255();
        writeBehindManyBytes();
        put();
        at();
        clear();
        Check.end();
    }

    private static PacketHeads oneBlock(int style, int layer, int missing) {
        PacketHeads x = new PacketHeads();
        x.begin(style);
        x.band(1, 1);
        x.first(0, 0, layer, missing);
        return x;
    }

    private static void tell(PacketHeads x, int band, int block, int passes, int... bytes) {
        x.bring(band, block, passes);
        for (int b : bytes) {
            x.piece(band, block, b);
        }
    }

    private static void newObject() {
        PacketHeads x = new PacketHeads();
        Check.is("new: bytes", x.at(NONE), 0);
        Check.is("new: written", x.layers(0), 0);
        Check.is("new: read", x.layers(1), 0);
        Check.is("new: over", x.layers(2), 0);
        Check.argument("new: no band", () -> x.got(0, 0, 0));
        Check.is("new: first band", x.band(1, 1), 0);
        Check.is("new: style 0 has one piece", x.bring(0, 0, 30), 1);
        PacketHeads y = new PacketHeads();
        Check.is("new: a head without bands", y.write(), 1);
        Check.is("new: it is one bit 0", y.at(0), 0);
        Check.is("new: read without bands", y.read(0, 1), 1);
    }

    private static void begin() {
        int[] styles = {0, 1, 4, 5};
        int[] pieces = {1, 14, 30, 30};
        for (int i = 0; i < styles.length; i++) {
            PacketHeads x = oneBlock(styles[i], 0, 0);
            Check.is("begin(" + styles[i] + "): pieces of 30 passes", x.bring(0, 0, 30), pieces[i]);
        }
        PacketHeads x = oneBlock(1, 0, 0);
        tell(x, 0, 0, 1, 5);
        for (int style : new int[] {-1, 2, 3, 6, 7, 8, 9, 12, 16, 20, 256, LEAST, LEAST + 1, MOST}) {
            Check.argument("begin(" + style + ")", () -> x.begin(style));
        }
        Check.is("a begin that throws leaves what is brought", x.write(), 1);
        Check.is("a begin that throws leaves the style", x.bring(0, 0, 11), 2);
    }

    private static void beginForgets() {
        PacketHeads x = oneBlock(4, 0, 0);
        tell(x, 0, 0, 1, 255);
        int n = x.write();
        x.read(0, n);
        Check.unsupported("a head without bytes", () -> x.read(0, 0));
        x.begin(0);
        Check.is("begin: bytes stay", x.at(NONE), n);
        Check.is("begin: none written", x.layers(0), 0);
        Check.is("begin: none read", x.layers(1), 0);
        Check.is("begin: reading is not over", x.layers(2), 0);
        Check.argument("begin: no bands", () -> x.bring(0, 0, 0));
        Check.is("begin: bands count anew", x.band(1, 1), 0);
        Check.is("begin: width read", x.got(0, 0, 5), 3);
        Check.is("begin: no passes read", x.got(0, 0, 2), 0);
        Check.is("begin: no missing planes", x.got(0, 0, 3), NONE);
        x.first(0, 0, 0, 0);
        tell(x, 0, 0, 1, 7);
        x.write();
        new HeadBits().add("1 1 1 0 0 111").checkWritten("begin: trees and widths are new", x, n);
        PacketHeads y = oneBlock(0, 0, 0);
        tell(y, 0, 0, 3, 1);
        y.begin(0);
        y.band(1, 1);
        Check.state("begin: nothing is brought", () -> y.piece(0, 0, 1));
        Check.is("begin: no first layer", y.write(), 1);
    }

    private static void band() {
        PacketHeads x = new PacketHeads();
        int[][] none = {{-1, 1}, {1, -1}, {65, 1}, {1, 65}, {65, 0}, {0, 65}, {LEAST, 1}, {MOST, MOST}, {64, 17},
            {33, 32}, {64, 64}};
        for (int[] size : none) {
            Check.argument("band(" + size[0] + ", " + size[1] + ")", () -> x.band(size[0], size[1]));
        }
        Check.is("band(64, 1)", x.band(64, 1), 0);
        Check.argument("64 and 961 blocks", () -> x.band(31, 31));
        Check.is("band(15, 64)", x.band(15, 64), 1);
        Check.argument("1024 and 1 blocks", () -> x.band(1, 1));
        Check.is("band(0, 64)", x.band(0, 64), 2);
        Check.argument("a fourth band with a block too many", () -> x.band(1, 1));
        Check.argument("a fourth band too wide", () -> x.band(65, 0));
        Check.state("a fourth band", () -> x.band(0, 0));
        Check.is("last block", x.bring(1, 959, 0), 0);
        Check.argument("behind the last block", () -> x.bring(1, 960, 0));
        Check.argument("a band without blocks", () -> x.bring(2, 0, 0));
        Check.argument("no such band", () -> x.bring(3, 0, 0));
        PacketHeads y = new PacketHeads();
        Check.is("band(64, 16)", y.band(64, 16), 0);
        Check.is("missing planes of a new block are not read", y.got(0, 1023, 3), NONE);
    }

    private static void bandStates() {
        PacketHeads written = new PacketHeads();
        written.band(1, 1);
        written.write();
        Check.state("band behind a written head", () -> written.band(1, 1));
        Check.argument("such a band, too high", () -> written.band(1, 65));
        PacketHeads read = new PacketHeads();
        read.put(0);
        read.read(0, 1);
        Check.state("band behind a read head", () -> read.band(1, 1));
        PacketHeads over = new PacketHeads();
        Check.unsupported("reading no byte", () -> over.read(0, 0));
        Check.state("band when reading is over", () -> over.band(1, 1));
        PacketHeads never = new PacketHeads();
        never.band(1, 1);
        tell(never, 0, 0, 1, 1);
        Check.state("a new block never comes in", never::write);
        Check.is("a band behind one that brings", never.band(2, 1), 1);
        never.first(0, 0, 0, 0);
        Check.is("its missing planes are 0", never.write(), 2);
        new HeadBits().add("1 1 1 0 0 001 0").checkWritten("what was brought before a band stays", never, 0);
    }

    private static void first() {
        PacketHeads x = new PacketHeads();
        x.band(2, 2);
        int[][] none = {{-1, 0, 0, 0}, {1, 0, 0, 0}, {LEAST, 0, 0, 0}, {MOST, 0, 0, 0}, {0, -1, 0, 0}, {0, 4, 0, 0},
            {0, LEAST, 0, 0}, {0, MOST, 0, 0}, {0, 0, -2, 0}, {0, 0, 255, 0}, {0, 0, 1000, 0}, {0, 0, 0, -1},
            {0, 0, 0, 74}, {0, 0, NONE, 74}, {0, 0, MOST, 0}, {0, 0, 0, MOST}, {0, 0, LEAST, 0}};
        for (int[] a : none) {
            Check.argument("first of what isn't", () -> x.first(a[0], a[1], a[2], a[3]));
        }
        Check.nothing("first layer 254", () -> x.first(0, 3, 254, 73));
        Check.nothing("first layer 0", () -> x.first(0, 0, 0, 0));
        Check.nothing("no first layer", () -> x.first(0, 0, NONE, 73));
        x.put(0);
        x.read(0, 1);
        Check.nothing("first behind a read head", () -> x.first(0, 3, NONE, 0));
        x.write();
        Check.state("first behind a written head", () -> x.first(0, 0, 0, 0));
        Check.argument("no such block behind a written head", () -> x.first(0, 4, 0, 0));
        Check.argument("no such layer behind a written head", () -> x.first(0, 0, 255, 0));
    }

    private static void firstToldAgain() {
        PacketHeads x = new PacketHeads();
        x.band(2, 1);
        x.first(0, 0, 0, 0);
        x.first(0, 1, 0, 0);
        x.first(0, 0, 1, 4);
        x.first(0, 1, 1, 3);
        Check.argument("a first that throws", () -> x.first(0, 1, 0, 74));
        x.write();
        tell(x, 0, 0, 1, 1);
        tell(x, 0, 1, 1, 1);
        x.write();
        new HeadBits().add("1").add("01 1").add("0001 01").add("0 0 001").add("1").add("1").add("0 0 001")
                .checkWritten("the latest first counts", x, 1);
    }

    private static void bring() {
        PacketHeads x = oneBlock(1, 0, 0);
        int[][] none = {{-1, 0, 1}, {1, 0, 1}, {0, -1, 1}, {0, 1, 1}, {0, MOST, 1}, {LEAST, 0, 1}, {0, 0, -1},
            {0, 0, 165}, {0, 0, MOST}, {0, 0, LEAST}};
        for (int[] a : none) {
            Check.argument("bring of what isn't", () -> x.bring(a[0], a[1], a[2]));
        }
        int[] pieces = {0, 1, 1, 1, 1, 1, 1, 1, 1, 1, 1, 2, 2, 3, 4, 4, 5, 6, 6, 7, 8};
        for (int passes = 0; passes < pieces.length; passes++) {
            Check.is("BYPASS: " + passes + " passes", x.bring(0, 0, passes), pieces[passes]);
        }
        Check.is("BYPASS: 164 passes", x.bring(0, 0, 164), 104);
        tell(x, 0, 0, 9, 1);
        x.write();
        int[] later = {0, 1, 2, 2, 3, 4, 4, 5};
        for (int passes = 0; passes < later.length; passes++) {
            Check.is("BYPASS: passes from 9 on", x.bring(0, 0, passes), later[passes]);
        }
        PacketHeads each = oneBlock(4, 0, 0);
        Check.is("EACH: 164 passes", each.bring(0, 0, 164), 164);
        Check.is("in place of what was told", each.bring(0, 0, 2), 2);
        each.piece(0, 0, 1);
        each.piece(0, 0, 1);
        Check.argument("a bring that throws", () -> each.bring(0, 0, 165));
        Check.state("leaves the pieces as they are", () -> each.piece(0, 0, 1));
        Check.is("bring again", each.bring(0, 0, 2), 2);
        Check.state("its pieces have no bytes told", each::write);
        Check.is("so that the first is the next", each.piece(0, 0, 3), 1);
    }

    private static void bringPassesInAll() {
        PacketHeads x = oneBlock(0, 0, 0);
        tell(x, 0, 0, 164, 9);
        x.write();
        Check.argument("201 passes", () -> x.bring(0, 0, 37));
        Check.is("200 passes", x.bring(0, 0, 36), 1);
        Check.is("200 passes, told again", x.bring(0, 0, 36), 1);
        x.piece(0, 0, 9);
        x.write();
        Check.argument("one above 200", () -> x.bring(0, 0, 1));
        Check.is("none above 200", x.bring(0, 0, 0), 0);
        Check.is("a block with all its passes", x.write(), 1);
    }

    private static void bringPiecesInAll() {
        PacketHeads x = new PacketHeads();
        x.begin(4);
        x.band(5, 4);
        x.band(5, 4);
        for (int b = 0; b < 20; b++) {
            x.bring(0, b, 164);
        }
        for (int b = 0; b < 4; b++) {
            x.bring(1, b, 164);
        }
        Check.argument("4097 pieces", () -> x.bring(1, 5, 161));
        Check.is("4096 pieces", x.bring(1, 5, 160), 160);
        Check.argument("one more", () -> x.bring(1, 6, 1));
        Check.argument("one more of a block that brings some", () -> x.bring(1, 5, 161));
        Check.is("as many in their place", x.bring(0, 0, 164), 164);
        Check.is("one less", x.bring(0, 0, 163), 163);
        Check.is("makes room for one", x.bring(1, 19, 1), 1);
        Check.argument("but not for two", () -> x.bring(1, 19, 2));
        Check.is("all go", x.bring(1, 5, 0), 0);
        Check.is("and others come", x.bring(1, 6, 160), 160);
        x.begin(4);
        x.band(64, 16);
        for (int b = 0; b < 24; b++) {
            x.bring(0, b, 164);
        }
        Check.is("4096 pieces of a new precinct", x.bring(0, 1023, 160), 160);
        Check.argument("4097 pieces of a new precinct", () -> x.bring(0, 500, 1));
    }

    private static void bringMovesNoOtherPieces() {
        PacketHeads x = new PacketHeads();
        x.begin(4);
        x.band(3, 1);
        for (int b = 0; b < 3; b++) {
            x.first(0, b, 0, 0);
        }
        tell(x, 0, 2, 2, 1, 2);
        tell(x, 0, 0, 1, 3);
        tell(x, 0, 1, 2, 4);
        tell(x, 0, 2, 1, 5);
        tell(x, 0, 0, 2, 6, 7);
        x.piece(0, 1, 0);
        x.write();
        new HeadBits().add("1").add("1 1 1 1 1 1 10 0 110 111").add("1 1 10 0 100 000").add("1 1 1 1 0 0 101")
                .checkWritten("pieces keep to their blocks", x, 0);
    }

    private static void piece() {
        PacketHeads x = oneBlock(4, 0, 0);
        Check.state("no pieces at all", () -> x.piece(0, 0, 0));
        x.bring(0, 0, 3);
        int[][] none = {{-1, 0, 1}, {1, 0, 1}, {0, -1, 1}, {0, 1, 1}, {0, MOST, 1}, {LEAST, 0, 1}, {0, 0, -1},
            {0, 0, 65536}, {0, 0, MOST}, {0, 0, LEAST}};
        for (int[] a : none) {
            Check.argument("piece of what isn't", () -> x.piece(a[0], a[1], a[2]));
        }
        Check.is("first piece", x.piece(0, 0, 0), 1);
        Check.is("second piece", x.piece(0, 0, 65535), 2);
        Check.is("third piece", x.piece(0, 0, 1), 3);
        Check.state("a fourth piece", () -> x.piece(0, 0, 1));
        Check.argument("a fourth piece with too many bytes", () -> x.piece(0, 0, 65536));
        x.write();
        new HeadBits().add("1 1 1 1100").times(13, "1").add("0").number(0, 16).number(65535, 16).number(1, 16)
                .checkWritten("pieces in their order", x, 0);
        Check.state("behind the head", () -> x.piece(0, 0, 1));
    }

    private static void writeStates() {
        PacketHeads early = oneBlock(0, 1, 0);
        tell(early, 0, 0, 1, 1);
        Check.state("before its first layer", early::write);
        Check.is("nothing was written", early.at(NONE), 0);
        Check.is("no layer either", early.layers(0), 0);
        early.bring(0, 0, 0);
        Check.is("none before its first layer", early.write(), 1);
        Check.state("none in its first layer", early::write);
        early.bring(0, 0, 2);
        Check.state("a piece without bytes", early::write);
        Check.is("what it brings stays", early.piece(0, 0, 1), 1);
        Check.is("its first layer", early.write(), 2);
        new HeadBits().add("1 01 1 10 0 0001").checkWritten("a first layer 1", early, 1);
        Check.is("none in a later one", early.write(), 1);
    }

    private static void writeLayers() {
        PacketHeads x = oneBlock(0, 254, 0);
        for (int layer = 0; layer < 254; layer++) {
            Check.is("an empty head", x.write(), 1);
        }
        Check.is("layers", x.layers(0), 254);
        tell(x, 0, 0, 1, 1);
        x.write();
        new HeadBits().add("1").times(254, "0").add("1 1 0 0 001").checkWritten("layer 254", x, 254);
        int bytes = x.at(NONE);
        Check.state("256 layers", x::write);
        Check.is("255 layers", x.layers(0), 255);
        Check.is("nothing was written behind them", x.at(NONE), bytes);
    }

    private static void writeUsesUp() {
        PacketHeads x = oneBlock(4, 0, 0);
        tell(x, 0, 0, 2, 8, 1);
        x.write();
        new HeadBits().add("1 1 1 10 10 1000 0001").checkWritten("first layer", x, 0);
        int place = x.at(NONE);
        Check.is("nothing is brought any more", x.write(), 1);
        tell(x, 0, 0, 1, 16);
        x.write();
        new HeadBits().add("0 0000000").add("1 1 0 10 10000").checkWritten("later layers", x, place);
    }

    private static void writeTrees() {
        PacketHeads x = new PacketHeads();
        x.band(3, 3);
        x.first(0, 0, 1, 2);
        x.first(0, 2, 0, 1);
        x.first(0, 8, 1, 73);
        tell(x, 0, 2, 1, 0);
        x.write();
        // The root's number is 0, that of the first four blocks 1, and of the block 5 below block 2 never.
        new HeadBits().add("1").add("1 0").add("").add("1 1").add("1 1 01").add("0 0 000")
                .add("").add("").add("0").add("0").add("").add("0")
                .checkWritten("trees of a first layer", x, 0);
        int place = x.at(NONE);
        tell(x, 0, 0, 1, 0);
        tell(x, 0, 8, 1, 0);
        x.write();
        // OUT: the root is known to be 0, the first four have 0 too, and the block itself 2; block 8 stands alone.
        new HeadBits().add("1").add("1 1").add("1 001").add("0 0 000").add("0").add("0").add("0").add("0").add("0")
                .add("0").add("").add("1 1").times(73, "0").add("1 1").add("0 0 000")
                .checkWritten("trees of a second layer", x, place);
    }

    /** A row of 64 has seven levels, and so have 64 by 16; one of 5 by 3 has 3 by 2 and 2 by 1 above it. */
    private static void writeTreesOfManyLevels() {
        int[][] shapes = {{64, 1, 7}, {1, 64, 7}, {64, 16, 7}, {32, 32, 6}, {33, 1, 7}, {5, 3, 4}, {2, 2, 2}, {1, 1, 1}};
        for (int[] shape : shapes) {
            PacketHeads x = new PacketHeads();
            x.band(shape[0], shape[1]);
            int last = shape[0] * shape[1] - 1;
            for (int b = 0; b < Math.min(last, 64); b++) {
                x.first(0, b, NONE, 1);
            }
            x.first(0, last, 1, 1);
            x.write();
            tell(x, 0, last, 1, 1);
            int n = x.write();
            Check.is("empty head", x.read(0, 1), 1);
            Check.is("head of many levels", x.read(1, n), n);
            Check.is("its missing planes", x.got(0, last, 3), 1);
            Check.is("its first layer", x.got(0, last, 4), 1);
            Check.is("its bytes", x.bytes(0, last, 0), 1);
            Check.is("others don't come in", x.got(0, 0, 4), last == 0 ? 1 : NONE);
        }
        PacketHeads row = new PacketHeads();
        row.band(64, 1);
        row.first(0, 0, 0, 0);
        tell(row, 0, 0, 1, 1);
        row.write();
        // Behind block 0 each of the six levels below the root has one node more that is told not to come in.
        new HeadBits().add("1").times(7, "1").times(7, "1").add("0 0 001").times(6, "0")
                .checkWritten("a row of 64", row, 0);
        PacketHeads odd = new PacketHeads();
        odd.band(5, 3);
        odd.first(0, 14, 0, 0);
        tell(odd, 0, 14, 1, 1);
        odd.write();
        // Told on the way: root, 2 by 1, 3 by 2, blocks. Block 4 stands below the second of 2 by 1, the third of 3 by 2.
        new HeadBits().add("1").add("1 0").add("1 0").add("1 1").add("1 1 1 1").add("0 0 001")
                .checkWritten("five by three", odd, 0);
    }

    private static void writeBands() {
        PacketHeads x = new PacketHeads();
        x.band(1, 2);
        x.band(0, 3);
        x.band(2, 1);
        x.first(0, 1, 0, 1);
        x.first(2, 0, 0, 2);
        x.first(2, 1, 0, 3);
        tell(x, 2, 1, 3, 1);
        tell(x, 2, 0, 2, 2);
        tell(x, 0, 1, 1, 3);
        x.write();
        new HeadBits().add("1").add("1 0").add("1 1 01 0 0 011").add("1 1 001 1 10 0 0010").add("1 01 1100 0 0001")
                .checkWritten("three bands", x, 0);
    }

    private static void writePassCounts() {
        Object[][] codes = {{1, "0"}, {2, "10"}, {3, "1100"}, {4, "1101"}, {5, "1110"}, {6, "1111 00000"},
            {7, "1111 00001"}, {36, "1111 11110"}, {37, "111111111 0000000"}, {38, "111111111 0000001"},
            {100, "111111111 0111111"}, {164, "111111111 1111111"}};
        int[] logs = {0, 1, 1, 2, 2, 2, 2, 5, 5, 5, 6, 7};
        for (int i = 0; i < codes.length; i++) {
            PacketHeads x = oneBlock(0, 0, 0);
            tell(x, 0, 0, (Integer) codes[i][0], 1);
            x.write();
            new HeadBits().add("1 1 1").add((String) codes[i][1]).add("0").number(1, 3 + logs[i])
                    .checkWritten(codes[i][0] + " passes", x, 0);
        }
    }

    private static void writeWidths() {
        int[] bytes = {0, 7, 8, 15, 16, 255, 256, 32767, 32768, 65535};
        int[] widths = {3, 3, 4, 4, 5, 8, 9, 15, 16, 16};
        for (int i = 0; i < bytes.length; i++) {
            PacketHeads x = oneBlock(0, 0, 0);
            tell(x, 0, 0, 1, bytes[i]);
            x.write();
            new HeadBits().add("1 1 1 0").times(widths[i] - 3, "1").add("0").number(bytes[i], widths[i])
                    .checkWritten(bytes[i] + " bytes", x, 0);
        }
        PacketHeads x = oneBlock(1, 0, 0);
        // Pieces of 10 passes, 2 and 1: 3 bits more, 1 more and none; 64 fits in 3 + 3 bits and 1, 9 in 3 + 1.
        tell(x, 0, 0, 13, 64, 9, 3);
        x.write();
        new HeadBits().add("1 1 1 1111 00111 10").number(64, 7).number(9, 5).number(3, 4)
                .checkWritten("pieces of several passes", x, 0);
        int place = x.at(NONE);
        // The width stays 4. Passes 13 and 14 are a piece, 15 one, and 16 another, behind which no segment ends.
        tell(x, 0, 0, 4, 1, 15, 40);
        x.write();
        new HeadBits().add("1 1 1101 110").number(1, 7).number(15, 6).number(40, 6)
                .checkWritten("a width that grows again", x, place);
    }

    private static void writeStuffing() {
        PacketHeads x = oneBlock(4, 0, 0);
        tell(x, 0, 0, 6, 65535, 65535, 65535, 65535, 65535, 65535);
        x.write();
        new HeadBits().add("1 1 1 1111 00000").times(13, "1").add("0").times(96, "1")
                .checkWritten("six pieces", x, 0);
        int place = x.at(NONE);
        tell(x, 0, 0, 2, 65535, 65535);
        x.write();
        new HeadBits().add("1 1 10 0").times(32, "1").checkWritten("two pieces", x, place);
        PacketHeads behind = oneBlock(0, 0, 0);
        // 1 1 1 11111 | 0 1111 000 | 0000 0 001 | 00000: a byte behind a 255 has seven bits of the head.
        tell(behind, 0, 0, 37, 32);
        Check.is("a byte of 255", behind.write(), 4);
        int[] bytes = {255, 0b01111000, 0b00000001, 0b00000000};
        for (int i = 0; i < bytes.length; i++) {
            Check.is("a byte of 255: byte " + i, behind.at(i), bytes[i]);
        }
        PacketHeads other = oneBlock(0, 0, 0);
        other.put(255);
        tell(other, 0, 0, 1, 7);
        Check.is("behind another's 255", other.write(), 1);
        Check.is("all eight bits count", other.at(1), 0b11100111);
    }

    private static void writeLast255() {
        PacketHeads x = oneBlock(0, 0, 0);
        // 1 1 1 0 1111 | 1111 0 111 | 11111111: the last byte is 255, and a byte 0 follows.
        tell(x, 0, 0, 1, 2047);
        Check.is("a last byte of 255", x.write(), 4);
        int[] bytes = {0b11101111, 0b11110111, 255, 0};
        for (int i = 0; i < bytes.length; i++) {
            Check.is("a last byte of 255: byte " + i, x.at(i), bytes[i]);
        }
        for (int all = 1; all < 65536; all = 2 * all + 1) {
            for (int missing = 0; missing < 8; missing++) {
                endWithBits1(all, missing);
            }
        }
    }

    /** With the missing planes the bits 1 at the end come to stand at any place of the last byte. */
    private static void endWithBits1(int bytes, int missing) {
        PacketHeads x = oneBlock(0, 0, missing);
        tell(x, 0, 0, 1, bytes);
        x.write();
        int width = Math.max(3, Integer.toBinaryString(bytes).length());
        new HeadBits().add("1 1").times(missing, "0").add("1 0").times(width - 3, "1").add("0").number(bytes, width)
                .checkWritten(bytes + " bytes, " + missing + " missing planes", x, 0);
    }

    private static void writeBehindManyBytes() {
        PacketHeads x = oneBlock(0, 0, 0);
        for (int i = 0; i < 131072; i++) {
            x.put(i & 255);
        }
        tell(x, 0, 0, 1, 7);
        Check.is("behind 131,072 bytes", x.write(), 1);
        x.bring(0, 0, 1);
        Check.state("a piece without bytes comes first", x::write);
        x.piece(0, 0, 7);
        Check.unsupported("behind 131,073 bytes", x::write);
        Check.is("nothing was written", x.at(NONE), 131073);
        Check.is("no layer either", x.layers(0), 1);
        x.clear();
        Check.is("what it brings stays", x.write(), 1);
        new HeadBits().add("1 1 0 0 111").checkWritten("behind no bytes", x, 0);
    }

    private static void put() {
        PacketHeads x = new PacketHeads();
        for (int b : new int[] {-1, 256, LEAST, MOST}) {
            Check.argument("put(" + b + ")", () -> x.put(b));
        }
        Check.is("put(0)", x.put(0), 1);
        Check.is("put(255)", x.put(255), 2);
        Check.is("put(128)", x.put(128), 3);
        Check.is("byte 0", x.at(0), 0);
        Check.is("byte 1", x.at(1), 255);
        Check.is("byte 2", x.at(2), 128);
        for (int i = 3; i < 262144; i++) {
            if (x.put(i & 255) != i + 1) {
                Check.is("put number " + i, 0, i + 1);
            }
        }
        Check.unsupported("a byte too many", () -> x.put(0));
        Check.argument("no byte, and too many", () -> x.put(256));
        Check.is("262,144 bytes", x.at(NONE), 262144);
        Check.is("the last one", x.at(262143), 255);
    }

    private static void at() {
        PacketHeads x = new PacketHeads();
        Check.is("no bytes", x.at(NONE), 0);
        Check.index("at(0) of none", () -> x.at(0));
        x.put(200);
        x.put(9);
        Check.is("two bytes", x.at(NONE), 2);
        Check.is("at(0)", x.at(0), 200);
        Check.is("at(1)", x.at(1), 9);
        for (int k : new int[] {-2, 2, LEAST, MOST}) {
            Check.index("at(" + k + ")", () -> x.at(k));
        }
    }

    private static void clear() {
        PacketHeads x = oneBlock(0, 0, 0);
        tell(x, 0, 0, 1, 9);
        int n = x.write();
        x.read(0, n);
        x.clear();
        Check.is("clear: no bytes", x.at(NONE), 0);
        Check.index("clear: byte 0", () -> x.at(0));
        Check.argument("clear: no bytes to read", () -> x.read(0, 1));
        Check.is("clear: layers written stay", x.layers(0), 1);
        Check.is("clear: layers read stay", x.layers(1), 1);
        Check.is("clear: what was read stays", x.bytes(0, 0, 0), 9);
        Check.is("clear: bytes from the start", x.put(77), 1);
        Check.is("clear: byte 0 is new", x.at(0), 77);
    }
}
