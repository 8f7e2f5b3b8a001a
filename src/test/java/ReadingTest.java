/** Promises 11 to 14: read, got, bytes and layers. */
public final class ReadingTest {
    private static final int NONE = PacketHeads.NONE;
    private static final int LEAST = Integer.MIN_VALUE;
    private static final int MOST = Integer.MAX_VALUE;

    public static void main(String[] args) {
        arguments();
        readsWhatItWrites();
        emptyHeads();
        firstLayerIsThatOfComingIn();
        freeBits();
        last255();
        tooFewBytes();
        missingPlanes();
        passCounts();
        passesInAll();
        widths();
        lengths();
        piecesInAll();
        wrongForgets();
        readingLeavesWriting();
        layersRead();
        gotArguments();
        bytesArguments();
        layersArguments();
        Check.end();
    }

    private static PacketHeads precinct(int style, int wide, int high) {
        PacketHeads x = new PacketHeads();
        x.begin(style);
        x.band(wide, high);
        return x;
    }

    /** Has the bits read as the next head, in just their bytes: how many there are. */
    private static int read(PacketHeads x, HeadBits bits) {
        int place = x.at(NONE);
        int n = bits.putInto(x);
        if (x.read(place, n) != n) {
            throw new AssertionError("not all bytes were taken");
        }
        return n;
    }

    private static void wrong(String what, PacketHeads x, HeadBits bits) {
        int place = x.at(NONE);
        int n = bits.putInto(x);
        Check.unsupported(what, () -> x.read(place, n));
        Check.is(what + ": reading is over", x.layers(2), 1);
    }

    private static void arguments() {
        PacketHeads x = precinct(0, 1, 1);
        x.put(0);
        x.put(0);
        int[][] none = {{-1, 1}, {0, -1}, {0, 3}, {1, 2}, {2, 1}, {3, 0}, {MOST, 1}, {1, MOST}, {MOST, MOST},
            {LEAST, 0}, {0, LEAST}, {LEAST, LEAST}, {-1, 3}, {3, -1}};
        for (int[] a : none) {
            Check.argument("read(" + a[0] + ", " + a[1] + ")", () -> x.read(a[0], a[1]));
        }
        Check.is("none read by these", x.layers(1), 0);
        Check.is("reading goes on", x.layers(2), 0);
        Check.is("the last byte", x.read(1, 1), 1);
        Check.is("both bytes may be taken", x.read(0, 2), 1);
        Check.unsupported("no bytes, behind the last", () -> x.read(2, 0));
        Check.argument("no such bytes comes before over", () -> x.read(0, 3));
        Check.state("reading is over", () -> x.read(0, 1));
    }

    private static void readsWhatItWrites() {
        PacketHeads x = precinct(1, 3, 2);
        x.band(1, 1);
        x.first(0, 1, 1, 5);
        x.first(0, 4, 0, 2);
        x.first(1, 0, 0, 73);
        x.bring(0, 4, 13);
        x.piece(0, 4, 64);
        x.piece(0, 4, 9);
        x.piece(0, 4, 0);
        x.bring(1, 0, 1);
        x.piece(1, 0, 300);
        int n0 = x.write();
        x.bring(0, 1, 40);
        for (int i = 0; i < 21; i++) {
            x.piece(0, 1, 1000 + i);
        }
        x.bring(0, 4, 1);
        x.piece(0, 4, 65535);
        int n1 = x.write();
        Check.is("first head", x.read(0, n0 + n1), n0);
        Check.is("passes of the first", x.got(0, 4, 0), 13);
        Check.is("pieces of the first", x.got(0, 4, 1), 3);
        Check.is("missing planes", x.got(0, 4, 3), 2);
        Check.is("first layer", x.got(0, 4, 4), 0);
        Check.is("width", x.got(0, 4, 5), 4);
        Check.is("bytes of piece 0", x.bytes(0, 4, 0), 64);
        Check.is("bytes of piece 1", x.bytes(0, 4, 1), 9);
        Check.is("bytes of piece 2", x.bytes(0, 4, 2), 0);
        Check.is("one that comes later has no first layer", x.got(0, 1, 4), NONE);
        Check.is("nor missing planes", x.got(0, 1, 3), NONE);
        Check.is("73 missing planes", x.got(1, 0, 3), 73);
        Check.is("a width of nine", x.got(1, 0, 5), 9);
        Check.is("second head", x.read(n0, n1), n1);
        Check.is("passes of the second", x.got(0, 4, 0), 1);
        Check.is("pieces of the second", x.got(0, 4, 1), 1);
        Check.is("passes of both", x.got(0, 4, 2), 14);
        Check.is("its bytes", x.bytes(0, 4, 0), 65535);
        Check.is("first layer 1", x.got(0, 1, 4), 1);
        Check.is("missing planes 5", x.got(0, 1, 3), 5);
        Check.is("many pieces", x.got(0, 1, 1), 21);
        Check.is("the last one's bytes", x.bytes(0, 1, 20), 1020);
        Check.is("none of one that came in before", x.got(1, 0, 0), 0);
        Check.is("no pieces either", x.got(1, 0, 1), 0);
        Check.is("but its passes in all", x.got(1, 0, 2), 1);
        Check.index("and no bytes", () -> x.bytes(1, 0, 0));
    }

    private static void emptyHeads() {
        PacketHeads x = precinct(0, 1, 1);
        read(x, new HeadBits().add("1 1 01 10 0 0101"));
        Check.is("passes of a head", x.got(0, 0, 0), 2);
        Check.is("an empty head", read(x, new HeadBits().add("0 1111111")), 1);
        Check.is("no passes of an empty one", x.got(0, 0, 0), 0);
        Check.is("no pieces of an empty one", x.got(0, 0, 1), 0);
        Check.index("no bytes of an empty one", () -> x.bytes(0, 0, 0));
        Check.is("passes in all", x.got(0, 0, 2), 2);
        Check.is("missing planes stay", x.got(0, 0, 3), 1);
        Check.is("a head that brings none behind a bit 1", read(x, new HeadBits().add("1 0")), 1);
        Check.is("three heads", x.layers(1), 3);
    }

    private static void firstLayerIsThatOfComingIn() {
        PacketHeads x = precinct(0, 2, 1);
        read(x, new HeadBits().add("0"));
        read(x, new HeadBits().add("0"));
        // The tree tells layer 0 for the one block and 1 for the other, both past by now.
        read(x, new HeadBits().add("1").add("1 1").add("1 1").add("0 0 001").add("01").add("1").add("0 0 010"));
        Check.is("comes in in layer 2", x.got(0, 0, 4), 2);
        Check.is("so does the other", x.got(0, 1, 4), 2);
        Check.is("with its bytes", x.bytes(0, 1, 0), 2);
    }

    private static void freeBits() {
        for (char filling = '0'; filling <= '1'; filling++) {
            PacketHeads x = precinct(0, 1, 1);
            int n = new HeadBits().add("1 1 1 11111 1111 0000001 0").number(70, 8).putInto(x, filling, filling);
            Check.is("any bits fill it", x.read(0, n), n);
            Check.is("passes behind a 255", x.got(0, 0, 0), 38);
            Check.is("bytes behind a 255", x.bytes(0, 0, 0), 70);
        }
        PacketHeads row = precinct(0, 1, 1);
        for (int b : new int[] {255, 255, 255, 0b10110001, 0b11000000, 0, 0}) {
            row.put(b);
        }
        // A 255 behind a 255, its highest bit being free, is a 255 too.
        // 1 1 1 11111 | 1111 111 | 1111 111: 164 passes and three bits 1 | 0 110001 : no more; 13 bits: 110001 1100000.
        Check.is("three of 255", row.read(0, 7), 5);
        Check.is("164 passes", row.got(0, 0, 0), 164);
        Check.is("a width of six", row.got(0, 0, 5), 6);
        Check.is("their bytes", row.bytes(0, 0, 0), 0b1100011100000);
    }

    private static void last255() {
        PacketHeads x = precinct(0, 1, 1);
        for (int b : new int[] {0b11101111, 0b11110111, 255, 255, 9}) {
            x.put(b);
        }
        Check.is("one more is taken, whatever it is", x.read(0, 5), 4);
        Check.is("2047 bytes", x.bytes(0, 0, 0), 2047);
        PacketHeads few = precinct(0, 1, 1);
        for (int b : new int[] {0b11101111, 0b11110111, 255}) {
            few.put(b);
        }
        few.put(0);
        Check.unsupported("one more may not be taken", () -> few.read(0, 3));
        PacketHeads none = new PacketHeads();
        none.put(255);
        none.put(255);
        none.put(255);
        Check.is("no bands: one bit, filled with 1s", none.read(0, 3), 2);
        Check.unsupported("one byte of 255", () -> none.read(0, 1));
        PacketHeads filled = precinct(0, 1, 1);
        filled.put(0b11111111);
        filled.put(0b01111000);
        // 1, IN 1, OUT 1, 2 passes would be 10: here 11 11 1 .. so that the bits go on behind the 255.
        Check.unsupported("bits that go on", () -> filled.read(0, 2));
        PacketHeads before = precinct(0, 1, 1);
        before.put(255);
        before.put(0b11100111);
        Check.is("a 255 before the place does not count", before.read(1, 1), 1);
        Check.is("seven bytes", before.bytes(0, 0, 0), 7);
    }

    private static void tooFewBytes() {
        HeadBits bits = new HeadBits().add("1 1 00001 1111 00010 11110").number(500, 10);
        int n = bits.bytes('0', '0').size();
        for (int may = 0; may <= n + 1; may++) {
            PacketHeads x = precinct(0, 1, 1);
            bits.putInto(x);
            x.put(0);
            int most = may;
            if (may < n) {
                Check.unsupported("a head of " + n + " bytes in " + may, () -> x.read(0, most));
            } else {
                Check.is("a head of " + n + " bytes in " + may, x.read(0, may), n);
            }
        }
    }

    private static void missingPlanes() {
        PacketHeads x = precinct(0, 1, 1);
        read(x, new HeadBits().add("1 1").times(73, "0").add("1 0 0 011"));
        Check.is("73 missing planes", x.got(0, 0, 3), 73);
        wrong("74 missing planes", precinct(0, 1, 1), new HeadBits().add("1 1").times(74, "0").add("1 0 0 011"));
        PacketHeads two = precinct(0, 2, 1);
        wrong("74 missing planes below a root of 70", two,
                new HeadBits().add("1 1 1").times(70, "0").add("1").times(4, "0").add("0 0 011 0 00000"));
    }

    private static void passCounts() {
        Object[][] codes = {{1, "0", 0}, {2, "10", 1}, {3, "1100", 1}, {4, "1101", 2}, {5, "1110", 2},
            {6, "1111 00000", 2}, {8, "1111 00010", 3}, {36, "1111 11110", 5}, {37, "111111111 0000000", 5},
            {63, "111111111 0011010", 5}, {64, "111111111 0011011", 6}, {164, "111111111 1111111", 7}};
        for (Object[] code : codes) {
            PacketHeads x = precinct(0, 1, 1);
            read(x, new HeadBits().add("1 1 1").add((String) code[1]).add("10").number(11, 4 + (Integer) code[2]));
            Check.is("passes", x.got(0, 0, 0), (Integer) code[0]);
            Check.is("their bytes", x.bytes(0, 0, 0), 11);
            Check.is("their width", x.got(0, 0, 5), 4);
        }
    }

    private static void passesInAll() {
        HeadBits first = new HeadBits().add("1 1 1").add("111111111 1111111 0").number(1, 10);
        PacketHeads x = precinct(0, 1, 1);
        read(x, first);
        Check.is("164 passes", x.got(0, 0, 2), 164);
        read(x, new HeadBits().add("1 1").add("1111 11110 0").number(1, 8));
        Check.is("200 passes", x.got(0, 0, 2), 200);
        wrong("one more", x, new HeadBits().add("1 1 0 0 001"));
        PacketHeads y = precinct(0, 1, 1);
        read(y, first);
        wrong("201 passes", y, new HeadBits().add("1 1").add("111111111 0000000 0").number(1, 8));
    }

    private static void widths() {
        PacketHeads x = precinct(0, 1, 1);
        read(x, new HeadBits().add("1 1 1 0").times(29, "1").add("0").number(65535, 32));
        Check.is("a width of 32", x.got(0, 0, 5), 32);
        Check.is("65,535 in 32 bits", x.bytes(0, 0, 0), 65535);
        read(x, new HeadBits().add("1 1").add("111111111 1111111 0").number(65535, 39));
        Check.is("in 39 bits", x.bytes(0, 0, 0), 65535);
        wrong("and a width of 33", x, new HeadBits().add("1 1 0 10").number(1, 33));
        wrong("a width of 33", precinct(0, 1, 1), new HeadBits().add("1 1 1 0").times(30, "1").add("0").number(1, 33));
    }

    private static void lengths() {
        wrong("65,536 bytes", precinct(0, 1, 1), new HeadBits().add("1 1 1 0").times(14, "1").add("0")
                .number(65536, 17));
        wrong("1 in the highest of 39 bits", precinct(0, 1, 1), new HeadBits().add("1 1 1").add("111111111 1111111")
                .times(29, "1").add("0").number(1L << 38, 39));
        wrong("2 to the power of 32 bytes", precinct(0, 1, 1), new HeadBits().add("1 1 1").add("111111111 1111111")
                .times(29, "1").add("0").number(1L << 32, 39));
        wrong("the highest of 32 bits", precinct(0, 1, 1), new HeadBits().add("1 1 1 0").times(29, "1").add("0")
                .number(1L << 31, 32));
        PacketHeads second = precinct(4, 1, 1);
        wrong("a second piece with too many", second, new HeadBits().add("1 1 1 10").times(14, "1").add("0")
                .number(3, 17).number(65536, 17));
        Check.index("the first is forgotten too", () -> second.bytes(0, 0, 0));
    }

    private static void piecesInAll() {
        ManyPieces most = new ManyPieces(160);
        PacketHeads x = most.x;
        int n = x.at(NONE);
        Check.is("a head of 4096 pieces", x.read(0, n), n);
        Check.is("4096 pieces, the last ones", x.got(0, 24, 1), 160);
        for (int i = 0; i < 164; i++) {
            Check.is("bytes of piece " + i, x.bytes(0, 12, i), most.bytes(12, i));
        }
        PacketHeads y = new ManyPieces(161).x;
        Check.unsupported("4097 pieces", () -> y.read(0, n));
        Check.is("none of them", y.got(0, 0, 1), 0);
        read(x, new HeadBits().add("1").times(24, "0").add("1 10 0 010 011"));
        Check.is("the pieces of each head count by themselves", x.got(0, 24, 1), 2);
        Check.is("their bytes", x.bytes(0, 24, 1), 3);
        Check.is("all passes together", x.got(0, 24, 2), 162);
    }

    private static void wrongForgets() {
        PacketHeads x = precinct(0, 2, 1);
        read(x, new HeadBits().add("1").add("1 1").add("1 001").add("10 10 00101").add("0"));
        Check.is("a width before", x.got(0, 0, 5), 4);
        Check.is("missing planes before", x.got(0, 0, 3), 2);
        wrong("a head that ends too soon", x, new HeadBits().add("1 1 1111 000"));
        Check.is("how many were read stays", x.layers(1), 1);
        int[] due = {0, 0, 0, NONE, NONE, 3};
        for (int w = 0; w < due.length; w++) {
            Check.is("wrong: got " + w, x.got(0, 0, w), due[w]);
            Check.is("wrong: got " + w + " of the other", x.got(0, 1, w), due[w]);
        }
        Check.index("wrong: no bytes", () -> x.bytes(0, 0, 0));
        Check.state("wrong: reading is over", () -> x.read(0, 1));
        Check.state("wrong: no band any more", () -> x.band(1, 1));
        Check.is("wrong: bytes stay", x.at(0), new HeadBits().add("11110011").bytes('0', '0').get(0));
        x.begin(0);
        x.band(2, 1);
        Check.is("a new precinct is read", x.read(0, x.at(NONE)), 3);
        Check.is("with its first trees", x.got(0, 0, 3), 2);
    }

    private static void readingLeavesWriting() {
        PacketHeads x = precinct(0, 1, 1);
        x.first(0, 0, 0, 1);
        x.bring(0, 0, 1);
        x.piece(0, 0, 5);
        read(x, new HeadBits().add("1 1 01 10 110 000101"));
        Check.is("a width that was read", x.got(0, 0, 5), 5);
        int place = x.at(NONE);
        x.write();
        new HeadBits().add("1 1 01 0 0 101").checkWritten("a head written behind a read one", x, place);
        Check.is("a written head leaves what was read", x.got(0, 0, 0), 2);
        Check.unsupported("a wrong one", () -> x.read(0, 0));
        x.bring(0, 0, 1);
        x.piece(0, 0, 8);
        int behind = x.at(NONE);
        x.write();
        new HeadBits().add("1 1 0 10 1000").checkWritten("writing goes on when reading is over", x, behind);
    }

    private static void layersRead() {
        PacketHeads x = precinct(0, 1, 1);
        x.put(0);
        for (int i = 0; i < 254; i++) {
            x.read(0, 1);
        }
        int place = x.at(NONE);
        int n = new HeadBits().add("1").times(254, "0").add("1 1 0 0 001").putInto(x);
        Check.is("the last layer", x.read(place, n), n);
        Check.is("first layer 254", x.got(0, 0, 4), 254);
        Check.is("255 layers", x.layers(1), 255);
        Check.state("256 layers", () -> x.read(0, 1));
        Check.argument("256 layers, and no such bytes", () -> x.read(0, MOST));
        Check.is("reading is not over", x.layers(2), 0);
        Check.is("what was read stays", x.got(0, 0, 0), 1);
    }

    private static void gotArguments() {
        PacketHeads x = precinct(0, 2, 1);
        int[][] none = {{-1, 0, 0}, {1, 0, 0}, {0, -1, 0}, {0, 2, 0}, {0, 0, -1}, {0, 0, 6}, {LEAST, 0, 0},
            {MOST, 0, 0}, {0, LEAST, 0}, {0, MOST, 0}, {0, 0, LEAST}, {0, 0, MOST}};
        for (int[] a : none) {
            Check.argument("got of what isn't", () -> x.got(a[0], a[1], a[2]));
        }
        int[] due = {0, 0, 0, NONE, NONE, 3};
        for (int w = 0; w < due.length; w++) {
            Check.is("got " + w + " when none was read", x.got(0, 1, w), due[w]);
        }
        PacketHeads y = new PacketHeads();
        y.band(2, 1);
        y.first(0, 0, 0, 9);
        y.bring(0, 0, 1);
        y.piece(0, 0, 100);
        y.write();
        for (int w = 0; w < due.length; w++) {
            Check.is("got " + w + " when one was but written", y.got(0, 0, w), due[w]);
        }
    }

    private static void bytesArguments() {
        PacketHeads x = precinct(4, 2, 1);
        Check.index("no piece", () -> x.bytes(0, 0, 0));
        read(x, new HeadBits().add("1").add("1 1").add("1 1").add("10 0 011 110").add("0"));
        int[][] none = {{-1, 0, 0}, {1, 0, 0}, {0, -1, 0}, {0, 2, 0}, {LEAST, 0, 0}, {0, MOST, 0}, {0, 2, -1}};
        for (int[] a : none) {
            Check.argument("bytes of what isn't", () -> x.bytes(a[0], a[1], a[2]));
        }
        for (int i : new int[] {-1, 2, LEAST, MOST}) {
            Check.index("piece " + i, () -> x.bytes(0, 0, i));
        }
        Check.index("of a block that did not come in", () -> x.bytes(0, 1, 0));
        Check.is("piece 0", x.bytes(0, 0, 0), 3);
        Check.is("piece 1", x.bytes(0, 0, 1), 6);
    }

    private static void layersArguments() {
        PacketHeads x = precinct(0, 1, 1);
        for (int w : new int[] {-1, 3, LEAST, MOST}) {
            Check.argument("layers(" + w + ")", () -> x.layers(w));
        }
        x.write();
        x.write();
        x.read(0, 1);
        Check.is("written", x.layers(0), 2);
        Check.is("read", x.layers(1), 1);
        Check.is("not over", x.layers(2), 0);
        Check.unsupported("a wrong head", () -> x.read(1, 0));
        Check.is("over", x.layers(2), 1);
        Check.is("read stays", x.layers(1), 1);
        Check.is("written stays", x.layers(0), 2);
    }
}
