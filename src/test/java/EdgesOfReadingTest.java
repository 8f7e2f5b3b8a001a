/** Promise 11, and when a head is WRONG, sentence by sentence: what is just right, what isn't, and what that leaves. */
public final class EdgesOfReadingTest {
    private static final int NONE = PacketHeads.NONE;
    private static final int LEAST = Integer.MIN_VALUE;
    private static final int MOST = Integer.MAX_VALUE;
    private static final int[] OF_NO_BLOCK = {0, 0, 0, NONE, NONE, 3};
    /** A head of one byte: one block comes in, a pass, seven bytes. */
    private static final int SEVEN = 0b11100111;
    private static final String PASSES_164 = "111111111 1111111";

    public static void main(String[] args) {
        readsFromAPlaceOn();
        tellsHowManyBytesItHas();
        refusesBytesThatAreNot();
        refusesWhenReadingIsOver();
        refusesBehind255Heads();
        readsAHeadOfOneBit();
        readsNoPassesBehindABit1();
        readsLayersAtTheirBounds();
        comesInInTheLayerThatIsRead();
        fillingBitsMayBeAny();
        bitBehind255MayBeAny();
        byteBehindTwo255HasSevenBits();
        byteBehindALast255IsTaken();
        byteBehind255OfAnotherHeadHasEight();
        wrongIfBytesLack();
        wrongIfMissingPlanesAreNotKnown();
        wrongIfPassesAreAbove200();
        wrongIfAWidthIsAbove32();
        wrongIfAPieceIsAbove65535();
        wrongIfPiecesAreAbove4096();
        wrongLeavesNothingOfAnyBlock();
        wrongLeavesWhatElseThereIs();
        wrongEndsWithBegin();
        Check.end();
    }

    private static PacketHeads precinct(int style, int wide, int high) {
        PacketHeads x = new PacketHeads();
        x.begin(style);
        x.band(wide, high);
        return x;
    }

    /** Puts the head behind the bytes that there are and reads it, in just its bytes. */
    private static void right(String what, PacketHeads x, HeadBits bits) {
        int place = x.at(NONE);
        int n = bits.putInto(x);
        Check.nothing(what, () -> Check.is(what + ": bytes", x.read(place, n), n));
        Check.is(what + ": reading is not over", x.layers(2), 0);
    }

    /** With any number of bytes behind it the head is wrong, too. */
    private static void wrong(String what, PacketHeads x, HeadBits bits) {
        int place = x.at(NONE);
        int n = bits.putInto(x);
        int layers = x.layers(1);
        for (int i = 0; i < 40; i++) {
            x.put(0);
        }
        Check.unsupported(what, () -> x.read(place, n + 40));
        Check.is(what + ": reading is over", x.layers(2), 1);
        Check.is(what + ": how many were read stays", x.layers(1), layers);
        Check.state(what + ": no more is read", () -> x.read(place, n));
        for (int w = 0; w < OF_NO_BLOCK.length; w++) {
            Check.is(what + ": got " + w, x.got(0, 0, w), OF_NO_BLOCK[w]);
        }
        Check.index(what + ": no piece", () -> x.bytes(0, 0, 0));
    }

    // "The head of the next layer is read, from a place on, which may take n bytes: how many it has."

    private static void readsFromAPlaceOn() {
        for (int place = 0; place < 4; place++) {
            PacketHeads x = precinct(0, 1, 1);
            for (int i = 0; i < place; i++) {
                x.put(255);
            }
            x.put(SEVEN);
            Check.is("from place " + place + " on", x.read(place, 1), 1);
            Check.is("its bytes", x.bytes(0, 0, 0), 7);
        }
        PacketHeads again = precinct(0, 1, 1);
        again.put(0b01111111);
        Check.is("a place that was read", again.read(0, 1), 1);
        Check.is("may be read again", again.read(0, 1), 1);
    }

    private static void tellsHowManyBytesItHas() {
        for (int n = 1; n <= 5; n++) {
            PacketHeads x = precinct(0, 1, 1);
            x.put(SEVEN);
            for (int i = 0; i < 4; i++) {
                x.put(255);
            }
            Check.is("one byte of " + n, x.read(0, n), 1);
        }
        PacketHeads two = precinct(0, 1, 1);
        two.put(0b11010011);
        two.put(0b10000000);
        two.put(1);
        Check.is("two bytes of three", two.read(0, 3), 2);
        Check.is("its bytes", two.bytes(0, 0, 0), 7);
    }

    // "IllegalArgumentException if there aren't such bytes;"

    private static void refusesBytesThatAreNot() {
        for (State state : State.values()) {
            int count = state.make().at(NONE);
            int[][] none = {{-1, 0}, {-1, 1}, {-1, count + 1}, {0, -1}, {0, count + 1}, {1, count}, {count, 1},
                {count, -1}, {count + 1, 0}, {count + 1, -1}, {LEAST, 0}, {LEAST, LEAST}, {0, LEAST}, {MOST, 0},
                {MOST, 1}, {0, MOST}, {1, MOST}, {MOST, MOST}, {MOST, LEAST}, {LEAST, MOST}, {count, MOST},
                {-1 - count, count}};
            for (int[] it : none) {
                Refused.argument(state + ": read(" + it[0] + ", " + it[1] + ")", state::make,
                        x -> x.read(it[0], it[1]));
            }
        }
        PacketHeads x = new PacketHeads();
        for (int i = 0; i < 5; i++) {
            x.put(0);
        }
        int[][] some = {{0, 1}, {0, 5}, {4, 1}, {2, 3}, {3, 1}};
        for (int[] it : some) {
            Check.is("read(" + it[0] + ", " + it[1] + ")", x.read(it[0], it[1]), 1);
        }
        for (int place : new int[] {0, 3, 5}) {
            PacketHeads y = new PacketHeads();
            for (int i = 0; i < 5; i++) {
                y.put(0);
            }
            Check.unsupported("no bytes from place " + place + " on are too few", () -> y.read(place, 0));
        }
    }

    // "IllegalStateException if reading is over,"

    private static void refusesWhenReadingIsOver() {
        Refused.state("a head when reading is over", State.OVER::make, x -> x.read(0, 1));
        Refused.state("a wrong head when reading is over", State.OVER::make, x -> x.read(0, 0));
        Refused.state("the head that was read before", State.OVER::make, x -> x.read(2, x.at(NONE) - 2));
        Refused.argument("no such bytes when reading is over", State.OVER::make, x -> x.read(0, x.at(NONE) + 1));
    }

    // "or 255 were read;"

    private static void refusesBehind255Heads() {
        Refused.state("a head behind 255", State.ALL_READ::make, x -> x.read(x.at(NONE) - 1, 1));
        Refused.state("an empty head behind 255", () -> {
            PacketHeads x = State.ALL_READ.make();
            x.put(0);
            return x;
        }, x -> x.read(x.at(NONE) - 1, 1));
        Refused.state("a wrong head behind 255", State.ALL_READ::make, x -> x.read(0, 0));
        Refused.argument("no such bytes behind 255 heads", State.ALL_READ::make, x -> x.read(0, x.at(NONE) + 1));
        PacketHeads x = new PacketHeads();
        x.put(0);
        for (int layer = 0; layer < 255; layer++) {
            Check.is("layer " + layer, x.read(0, 1), 1);
        }
        Check.is("255 heads", x.layers(1), 255);
        Check.state("one more", () -> x.read(0, 1));
        Check.is("still 255", x.layers(1), 255);
        Check.is("reading is not over", x.layers(2), 0);
        x.begin(0);
        Check.is("a new precinct has 255 of its own", x.read(0, 1), 1);
    }

    // "One bit 0, if no block brings a pass; that is all."

    private static void readsAHeadOfOneBit() {
        PacketHeads x = precinct(0, 32, 32);
        x.put(0);
        x.put(127);
        for (int place = 0; place < 2; place++) {
            Check.is("one bit 0 for 1024 blocks", x.read(place, 1), 1);
        }
        Check.is("two heads", x.layers(1), 2);
        Check.is("no first layer", x.got(0, 1023, 4), NONE);
    }

    private static void readsNoPassesBehindABit1() {
        PacketHeads x = precinct(0, 2, 2);
        right("a bit 1, and no block comes in", x, new HeadBits().add("1 0"));
        Check.is("none came in", x.got(0, 0, 4), NONE);
        right("and then one does", x, new HeadBits().add("1").add("1 1").add("1 1").add("0 0 001").add("0 0 0"));
        Check.is("in layer 1", x.got(0, 0, 4), 1);
    }

    private static void readsLayersAtTheirBounds() {
        PacketHeads x = precinct(0, 1, 1);
        x.put(0);
        for (int layer = 0; layer < 254; layer++) {
            x.read(0, 1);
        }
        right("the head of layer 254", x, new HeadBits().add("1").times(254, "0").add("1 1 0 0 001"));
        Check.is("its first layer", x.got(0, 0, 4), 254);
        PacketHeads never = precinct(0, 1, 1);
        never.put(0);
        for (int layer = 0; layer < 254; layer++) {
            never.read(0, 1);
        }
        right("255 bits 0 in layer 254", never, new HeadBits().add("1").times(255, "0"));
        Check.is("it does not come in", never.got(0, 0, 4), NONE);
        PacketHeads each = precinct(0, 1, 1);
        for (int layer = 0; layer < 20; layer++) {
            right("IN is told one further in each layer", each, new HeadBits().add("1 0 111111"));
        }
        Check.is("it does not come in", each.got(0, 0, 4), NONE);
        right("until it comes", each, new HeadBits().add("1 1 1 0 0 010"));
        Check.is("in layer 20", each.got(0, 0, 4), 20);
    }

    // "(a block's first layer is that in which it comes in)"

    private static void comesInInTheLayerThatIsRead() {
        PacketHeads x = precinct(0, 1, 2);
        right("an empty head", x, new HeadBits().add("0"));
        right("one more", x, new HeadBits().add("0"));
        right("IN tells 0 of the one and 2 of the other", x, new HeadBits().add("1").add("1 1").add("1 1")
                .add("0 0 001").add("001").add("1").add("0 0 010"));
        Check.is("the one", x.got(0, 0, 4), 2);
        Check.is("the other", x.got(0, 1, 4), 2);
        right("both came in before", x, new HeadBits().add("1 0 1 0 0 111"));
        Check.is("which stays", x.got(0, 1, 4), 2);
    }

    // "The bits that fill the last byte may be any,"

    private static void fillingBitsMayBeAny() {
        for (int filling = 0; filling < 128; filling++) {
            PacketHeads x = new PacketHeads();
            x.put(filling);
            Check.is("one bit 0 and seven others", x.read(0, 1), 1);
        }
        for (int filling = 0; filling < 127; filling++) {
            PacketHeads x = new PacketHeads();
            x.put(128 + filling);
            Check.is("one bit 1 and seven others", x.read(0, 1), 1);
        }
        for (int filling = 0; filling < 64; filling++) {
            PacketHeads x = precinct(0, 1, 1);
            // 1 1 1 0 10 01 | 00 and six others: width 4, bytes 4.
            x.put(0b11101001);
            x.put(filling);
            Check.is("two bits and six others", x.read(0, 2), 2);
            Check.is("bytes before them", x.bytes(0, 0, 0), 4);
        }
    }

    // "so may the highest bit of a byte behind a 255;"

    private static void bitBehind255MayBeAny() {
        for (int highest = 0; highest < 2; highest++) {
            PacketHeads x = precinct(0, 1, 1);
            // 1 1 1 11111 | ? 1111 000 | 0001 0 000 | 00111 and three others: 38 passes, 7 in 8 bits.
            int[] bytes = {255, 128 * highest + 0b1111000, 0b00010000, 0b00111000};
            for (int b : bytes) {
                x.put(b);
            }
            Check.is("a highest bit " + highest, x.read(0, 4), 4);
            Check.is("passes", x.got(0, 0, 0), 38);
            Check.is("bytes", x.bytes(0, 0, 0), 7);
        }
    }

    /** Whatever its highest bit is: a byte of 255 is one, behind another one too. */
    private static void byteBehindTwo255HasSevenBits() {
        PacketHeads x = precinct(0, 1, 1);
        // 111 11111 | ? 1111 111 | ? 1111 110 | 10000000 | 0010 and four others: 164 passes, 2 wider, 12 bits.
        for (int b : new int[] {255, 255, 0b11111110, 0b10000000, 0b00100000}) {
            x.put(b);
        }
        Check.is("a 255 behind a 255", x.read(0, 5), 5);
        Check.is("164 passes", x.got(0, 0, 0), 164);
        Check.is("their width", x.got(0, 0, 5), 5);
        Check.is("their bytes", x.bytes(0, 0, 0), 0b100000000010);
    }

    // "behind a last byte of 255 one more is taken, whatever it is."

    private static void byteBehindALast255IsTaken() {
        for (int more : new int[] {0, 1, 127, 128, 254, 255}) {
            PacketHeads x = precinct(0, 1, 1);
            for (int b : new int[] {0b11101111, 0b11110111, 255, more, 255}) {
                x.put(b);
            }
            Check.is("a 255 that is full, and " + more, x.read(0, 5), 4);
            Check.is("its bytes", x.bytes(0, 0, 0), 2047);
        }
        for (int more : new int[] {0, 128, 255}) {
            PacketHeads x = new PacketHeads();
            x.put(255);
            x.put(more);
            x.put(0);
            Check.is("a 255 that is filled with 1s, and " + more, x.read(0, 3), 2);
        }
        PacketHeads few = new PacketHeads();
        few.put(255);
        few.put(0);
        Check.unsupported("one more may not be taken", () -> few.read(0, 1));
        Check.is("reading is over then", few.layers(2), 1);
        PacketHeads none = new PacketHeads();
        none.put(254);
        none.put(0);
        Check.is("behind 254 none is taken", none.read(0, 2), 1);
    }

    // "a byte behind a 255 (of the same head)"

    private static void byteBehind255OfAnotherHeadHasEight() {
        PacketHeads x = precinct(0, 1, 1);
        x.put(255);
        x.put(0b10000000);
        Check.is("a 255 before the place", x.read(1, 1), 1);
        for (int b : new int[] {0b11101111, 0b11110111, 255, 255}) {
            x.put(b);
        }
        Check.is("a head that ends with two of 255", x.read(2, 4), 4);
        // 1 1 0 0 and eleven bits: the head behind them.
        x.put(0b11001000);
        x.put(0b00000010);
        Check.is("all eight bits of the next count", x.read(6, 2), 2);
        Check.is("its bytes", x.bytes(0, 0, 0), 0b10000000001);
        PacketHeads over = precinct(0, 1, 1);
        over.put(255);
        over.put(SEVEN);
        Check.unsupported("a head that is wrong behind 255", () -> over.read(0, 1));
        over.begin(0);
        over.band(1, 1);
        Check.is("the first of the next precinct", over.read(1, 1), 1);
        Check.is("its bytes", over.bytes(0, 0, 0), 7);
    }

    // "A head is WRONG if it needs more bytes than it may take;"

    private static void wrongIfBytesLack() {
        HeadBits bits = new HeadBits().add("1 1 00001 1111 00010 11110").number(500, 10);
        int size = bits.bytes('0', '0').size();
        for (int n = 0; n < size; n++) {
            PacketHeads x = precinct(0, 1, 1);
            bits.putInto(x);
            int may = n;
            Check.unsupported("a head of " + size + " bytes that may take " + n, () -> x.read(0, may));
            Check.is("reading is over", x.layers(2), 1);
            Check.is("nothing was read", x.got(0, 0, 2), 0);
        }
        right("a head that may take all its bytes", precinct(0, 1, 1), bits);
        PacketHeads bit = precinct(0, 1, 1);
        // 1 1 00001 0 | 0 111: the last three bits stand in a byte of their own.
        bit.put(0b11000010);
        bit.put(0b01110000);
        Check.unsupported("four bits lack", () -> bit.read(0, 1));
        PacketHeads one = precinct(0, 1, 1);
        one.put(0b11010011);
        one.put(0b10000000);
        Check.unsupported("one bit lacks", () -> one.read(0, 1));
        PacketHeads trees = precinct(0, 32, 32);
        trees.put(128);
        Check.is("a root that doesn't come in is a bit for 1024 blocks", trees.read(0, 1), 1);
        trees.put(0b11111110);
        Check.unsupported("trees that go on", () -> trees.read(1, 1));
    }

    // "if OUT is told up to 74 and a block is not known;"

    private static void wrongIfMissingPlanesAreNotKnown() {
        PacketHeads x = precinct(0, 1, 1);
        right("73 bits 0 and a 1", x, new HeadBits().add("1 1").times(73, "0").add("1 0 0 011"));
        Check.is("73 missing planes", x.got(0, 0, 3), 73);
        wrong("74 bits 0", precinct(0, 1, 1), new HeadBits().add("1 1").times(74, "0").add("1 0 0 011"));
        PacketHeads below = precinct(0, 2, 1);
        right("a root of 70, 3 bits 0 and a 1", below,
                new HeadBits().add("1 11").times(70, "0").add("1 0001").add("0 0 011").add("0"));
        Check.is("73 missing planes below a root", below.got(0, 0, 3), 73);
        wrong("a root of 70 and 4 bits 0", precinct(0, 2, 1),
                new HeadBits().add("1 11").times(70, "0").add("1 0000").add("0 0 011").add("0"));
        PacketHeads zero = precinct(0, 2, 1);
        right("no bit 0", zero, new HeadBits().add("1 11").add("11").add("0 0 011").add("0"));
        Check.is("no missing planes", zero.got(0, 0, 3), 0);
    }

    // "if a block would have more than 200 passes,"

    private static void wrongIfPassesAreAbove200() {
        HeadBits most = new HeadBits().add("1 1 1").add(PASSES_164).add("0").number(1, 10);
        PacketHeads x = precinct(0, 1, 1);
        right("164 passes", x, most);
        right("and 36", x, new HeadBits().add("1 1 1111 11110 0").number(2, 8));
        Check.is("200 passes", x.got(0, 0, 2), 200);
        right("and none", x, new HeadBits().add("1 0"));
        wrong("and 1", x, new HeadBits().add("1 1 0 0 001"));
        PacketHeads y = precinct(0, 1, 1);
        right("164 passes", y, most);
        wrong("and 37", y, new HeadBits().add("1 1 111111111 0000000 0").number(2, 8));
        PacketHeads two = precinct(0, 2, 1);
        right("164 passes of two blocks each", two, new HeadBits().add("1").add("11 11").add(PASSES_164).add("0")
                .number(1, 10).add("1 1").add(PASSES_164).add("0").number(3, 10));
        Check.is("each counts by itself", two.got(0, 1, 2), 164);
    }

    // "a width be above 32,"

    private static void wrongIfAWidthIsAbove32() {
        PacketHeads x = precinct(0, 1, 1);
        right("29 bits 1", x, new HeadBits().add("1 1 1 0").times(29, "1").add("0").number(5, 32));
        Check.is("a width of 32", x.got(0, 0, 5), 32);
        right("and none", x, new HeadBits().add("1 1 10 0").number(6, 33));
        Check.is("still 32", x.got(0, 0, 5), 32);
        Check.is("with one bit more for two passes", x.bytes(0, 0, 0), 6);
        wrong("and one", x, new HeadBits().add("1 1 0 10").number(1, 33));
        wrong("30 bits 1", precinct(0, 1, 1), new HeadBits().add("1 1 1 0").times(30, "1").add("0").number(1, 33));
        wrong("300 bits 1", precinct(0, 1, 1), new HeadBits().add("1 1 1 0").times(300, "1").add("0").number(1, 303));
    }

    // "a piece have more than 65,535 bytes,"

    private static HeadBits length(int width, long bytes) {
        return new HeadBits().add("1 1 1 0").times(width - 3, "1").add("0").number(bytes, width);
    }

    private static void wrongIfAPieceIsAbove65535() {
        for (int width : new int[] {16, 17, 24, 31, 32}) {
            PacketHeads x = precinct(0, 1, 1);
            right("65,535 in " + width + " bits", x, length(width, 65535));
            Check.is("its bytes", x.bytes(0, 0, 0), 65535);
        }
        for (int width : new int[] {17, 24, 31, 32}) {
            wrong("65,536 in " + width + " bits", precinct(0, 1, 1), length(width, 65536));
            wrong("the highest of " + width + " bits", precinct(0, 1, 1), length(width, 1L << width - 1));
            wrong("all of " + width + " bits", precinct(0, 1, 1), length(width, (1L << width) - 1));
        }
        for (long bytes : new long[] {65536, 1L << 31, 1L << 32, (1L << 32) + 1, 1L << 38, (1L << 39) - 1}) {
            wrong(bytes + " in 39 bits", precinct(0, 1, 1), new HeadBits().add("1 1 1").add(PASSES_164)
                    .times(29, "1").add("0").number(bytes, 39));
        }
        PacketHeads most = precinct(0, 1, 1);
        right("65,535 in 39 bits", most, new HeadBits().add("1 1 1").add(PASSES_164).times(29, "1").add("0")
                .number(65535, 39));
        Check.is("its bytes", most.bytes(0, 0, 0), 65535);
        wrong("a last piece with 65,536", precinct(4, 1, 1), new HeadBits().add("1 1 1 10").times(14, "1").add("0")
                .number(65535, 17).number(65536, 17));
        PacketHeads both = precinct(4, 1, 1);
        right("two pieces with 65,535", both, new HeadBits().add("1 1 1 10").times(14, "1").add("0")
                .number(65535, 17).number(65535, 17));
        Check.is("the last one's", both.bytes(0, 0, 1), 65535);
    }

    // "or there be more than 4096 pieces."

    private static void wrongIfPiecesAreAbove4096() {
        reads4096Pieces();
        ManyPieces more = new ManyPieces(161);
        PacketHeads x = more.x;
        int n = x.at(NONE);
        Check.unsupported("4097 pieces", () -> x.read(0, n));
        Check.is("4097 pieces: reading is over", x.layers(2), 1);
        for (int b = 0; b < ManyPieces.BLOCKS; b++) {
            Check.is("4097 pieces: none of block " + b, x.got(0, b, 1), 0);
            Check.is("4097 pieces: no passes of block " + b, x.got(0, b, 2), 0);
        }
        Check.is("4097 pieces are read in few calls", more.calls() < 400 ? 1 : 0, 1);
        reads4100PassesInFewPieces();
    }

    /** So many may be in the next head again. */
    private static void reads4096Pieces() {
        ManyPieces most = new ManyPieces(160);
        PacketHeads x = most.x;
        int n = x.at(NONE);
        Check.is("4096 pieces", x.read(0, n), n);
        for (int b = 0; b < ManyPieces.BLOCKS; b++) {
            int pieces = most.passes(b);
            Check.is("4096 pieces: those of block " + b, x.got(0, b, 1), pieces);
            for (int i : new int[] {0, pieces / 2, pieces - 1}) {
                Check.is("4096 pieces: bytes of one of block " + b, x.bytes(0, b, i), most.bytes(b, i));
            }
        }
        right("the next head's piece", x, new HeadBits().add("1").add("1 0 0 010").times(ManyPieces.BLOCKS - 1, "0"));
        Check.is("of the first block", x.bytes(0, 0, 0), 2);
        Check.is("of the last block", x.got(0, 24, 1), 0);
        Check.is("4096 pieces are read in few calls", most.calls() < 350 ? 1 : 0, 1);
    }

    private static void reads4100PassesInFewPieces() {
        PacketHeads x = precinct(0, ManyPieces.BLOCKS, 1);
        HeadBits passes = new HeadBits().add("1");
        for (int b = 0; b < ManyPieces.BLOCKS; b++) {
            passes.times(2 * ManyPieces.freshNodes(b), "1").add(PASSES_164).add("0").number(b, 10);
        }
        right("4100 passes in 25 pieces", x, passes);
        Check.is("of the last block", x.bytes(0, 24, 0), 24);
    }

    // "READING is over then, and nothing was read of any block (widths are 3 again; how many heads were read stays)."

    private static void wrongLeavesNothingOfAnyBlock() {
        PacketHeads x = precinct(4, 2, 1);
        x.band(1, 1);
        right("a head", x, new HeadBits().add("1").add("1 1").add("01 01").add("10 10 1001 0110").add("1 1 0 110 11111")
                .add("1 001 0 10 1111"));
        int[][] blocks = {{0, 0}, {0, 1}, {1, 0}};
        int[] widths = {4, 5, 4};
        for (int i = 0; i < blocks.length; i++) {
            Check.is("a width before", x.got(blocks[i][0], blocks[i][1], 5), widths[i]);
        }
        right("a second head", x, new HeadBits().add("0"));
        int place = x.at(NONE);
        // The first block brings a pass; the second one's pieces have too many bytes.
        int n = new HeadBits().add("1").add("1 0 0 0001").add("1 0").times(12, "1").add("0").number(65536, 17)
                .putInto(x);
        Check.unsupported("a third head, which is wrong", () -> x.read(place, n));
        Check.is("reading is over", x.layers(2), 1);
        Check.is("two heads were read", x.layers(1), 2);
        for (int[] it : blocks) {
            for (int w = 0; w < OF_NO_BLOCK.length; w++) {
                Check.is("wrong: got " + w, x.got(it[0], it[1], w), OF_NO_BLOCK[w]);
            }
            Check.index("no piece", () -> x.bytes(it[0], it[1], 0));
        }
    }

    /** Of two objects made alike one reads a wrong head: but for what was read, both go on alike. */
    private static void wrongLeavesWhatElseThereIs() {
        PacketHeads plain = State.UNDER_WAY.make();
        PacketHeads x = State.OVER.make();
        Check.is("bytes stay", x.at(NONE), plain.at(NONE));
        for (int k = 0; k < plain.at(NONE); k++) {
            Check.is("byte " + k, x.at(k), plain.at(k));
        }
        Check.is("heads written stay", x.layers(0), 1);
        PacketHeads[] both = {plain, x};
        int[] sizes = new int[2];
        for (int i = 0; i < 2; i++) {
            both[i].piece(0, 0, 8);
            both[i].piece(0, 0, 200);
            sizes[i] = both[i].write();
        }
        Check.is("what blocks bring stays, and is written", sizes[1], sizes[0]);
        for (int k = 0; k < plain.at(NONE); k++) {
            Check.is("byte " + k + " behind the head", x.at(k), plain.at(k));
        }
        Check.is("it can be put", x.put(1), plain.put(1));
    }

    private static void wrongEndsWithBegin() {
        PacketHeads x = State.OVER.make();
        x.begin(0);
        Check.is("reading is not over", x.layers(2), 0);
        x.band(1, 1);
        right("a head of the new precinct", x, new HeadBits().add("1 1 01 0 0 011"));
        Check.is("its missing plane", x.got(0, 0, 3), 1);
    }
}
