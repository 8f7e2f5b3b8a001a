/** Promises 1 to 4, sentence by sentence: what is just allowed, what just isn't, and what a refused call leaves. */
public final class EdgesOfPrecinctTest {
    private static final int NONE = PacketHeads.NONE;
    private static final int LEAST = Integer.MIN_VALUE;
    private static final int MOST = Integer.MAX_VALUE;

    public static void main(String[] args) {
        newObjectHasNoBands();
        newObjectIsOfStyle0();
        newObjectHasNoBytes();
        newObjectHasNothingWrittenOrRead();
        beginTakesFourStyles();
        beginRefusesOtherStyles();
        beginLeavesNoBands();
        beginLeavesNothingWritten();
        beginLeavesNothingRead();
        beginLeavesBytes();
        bandTellsItsNumber();
        bandHasBlocksThatNeverComeIn();
        bandHasBlocksWithoutMissingPlanes();
        bandIsUpTo64Wide();
        bandIsUpTo64High();
        bandMayHaveNoBlocks();
        bandsHaveUpTo1024Blocks();
        bandsAreUpToThree();
        bandComesBeforeWrittenHeads();
        bandComesBeforeReadHeads();
        bandComesBeforeReadingIsOver();
        firstNamesABlock();
        firstTakesLayers();
        firstTakesMissingPlanes();
        firstComesBeforeWrittenHeads();
        firstIsForWritingAlone();
        firstMayBeToldAgain();
        Check.end();
    }

    // Promise 1. "A precinct without bands, of style 0; no bytes."

    private static void newObjectHasNoBands() {
        Refused.argument("new: first", PacketHeads::new, x -> x.first(0, 0, 0, 0));
        Refused.argument("new: bring", PacketHeads::new, x -> x.bring(0, 0, 0));
        Refused.argument("new: piece", PacketHeads::new, x -> x.piece(0, 0, 0));
        Refused.argument("new: got", PacketHeads::new, x -> x.got(0, 0, 0));
        Refused.argument("new: bytes", PacketHeads::new, x -> x.bytes(0, 0, 0));
        PacketHeads x = new PacketHeads();
        for (int number = 0; number < 3; number++) {
            Check.is("new: band", x.band(1, 1), number);
        }
    }

    private static void newObjectIsOfStyle0() {
        PacketHeads x = new PacketHeads();
        x.band(1, 1);
        Check.is("new: 164 passes are one piece", x.bring(0, 0, 164), 1);
    }

    private static void newObjectHasNoBytes() {
        PacketHeads x = new PacketHeads();
        Check.is("new: bytes", x.at(NONE), 0);
        Refused.index("new: byte 0", PacketHeads::new, y -> y.at(0));
        Refused.argument("new: a byte to read", PacketHeads::new, y -> y.read(0, 1));
        Check.is("new: the first byte put", x.put(1), 1);
    }

    private static void newObjectHasNothingWrittenOrRead() {
        PacketHeads x = new PacketHeads();
        for (int w = 0; w < 3; w++) {
            Check.is("new: layers(" + w + ")", x.layers(w), 0);
        }
        Check.is("new: the first head is that of layer 0", x.write(), 1);
        Check.is("new: one was written", x.layers(0), 1);
    }

    // Promise 2. "IllegalArgumentException if the style is not 0, 1, 4 or 5."

    private static void beginTakesFourStyles() {
        int[] styles = {0, 1, 4, 5};
        int[] pieces = {1, 104, 164, 164};
        for (State state : State.values()) {
            for (int i = 0; i < styles.length; i++) {
                PacketHeads x = state.make();
                x.begin(styles[i]);
                x.band(1, 1);
                Check.is(state + ": begin(" + styles[i] + ")", x.bring(0, 0, 164), pieces[i]);
            }
        }
    }

    private static void beginRefusesOtherStyles() {
        for (State state : State.values()) {
            for (int style : new int[] {-1, 2, 3, 6}) {
                Refused.argument(state + ": begin(" + style + ")", state::make, x -> x.begin(style));
            }
        }
        for (int style : new int[] {-4, -5, 7, 8, 9, 12, 13, 16, 17, 20, 21, 256, 257, 260, 261, 65536, 65537, 1 << 30,
            LEAST, LEAST + 1, LEAST + 4, LEAST + 5, MOST}) {
            Refused.argument("begin(" + style + ")", State.UNDER_WAY::make, x -> x.begin(style));
        }
    }

    // "A new precinct without bands; nothing was written or read of it. Bytes stay."

    private static PacketHeads begun(State state) {
        PacketHeads x = state.make();
        x.begin(0);
        return x;
    }

    private static void beginLeavesNoBands() {
        for (State state : State.values()) {
            Refused.argument(state + ": no band behind begin", () -> begun(state), x -> x.bring(0, 0, 0));
            PacketHeads x = begun(state);
            Check.is(state + ": a band behind begin", x.band(64, 16), 0);
            Check.is(state + ": a second", x.band(0, 0), 1);
            Check.is(state + ": a third", x.band(0, 64), 2);
            Check.is(state + ": its last block", x.bring(0, 1023, 1), 1);
        }
    }

    private static void beginLeavesNothingWritten() {
        for (State state : State.values()) {
            PacketHeads x = begun(state);
            Check.is(state + ": none written behind begin", x.layers(0), 0);
            x.band(2, 2);
            for (int block = 0; block < 4; block++) {
                int it = block;
                Check.state(state + ": nothing is brought behind begin", () -> x.piece(0, it, 0));
            }
            Check.is(state + ": no block comes in behind begin", x.write(), 1);
            x.begin(0);
            x.band(1, 1);
            x.first(0, 0, 0, 1);
            State.tell(x, 0, 0, 164, 1023);
            int place = x.at(NONE);
            x.write();
            new HeadBits().add("1 1 01 111111111 1111111 0").number(1023, 10)
                    .checkWritten(state + ": layer 0 with new trees, widths and passes", x, place);
            Check.is(state + ": one written behind begin", x.layers(0), 1);
        }
    }

    private static void beginLeavesNothingRead() {
        for (State state : State.values()) {
            PacketHeads x = begun(state);
            Check.is(state + ": none read behind begin", x.layers(1), 0);
            Check.is(state + ": reading is not over behind begin", x.layers(2), 0);
            x.band(2, 2);
            int[] due = {0, 0, 0, NONE, NONE, 3};
            for (int w = 0; w < due.length; w++) {
                for (int block = 0; block < 4; block++) {
                    Check.is(state + ": got behind begin", x.got(0, block, w), due[w]);
                }
            }
            Check.index(state + ": no piece behind begin", () -> x.bytes(0, 0, 0));
            int place = x.at(NONE);
            int n = new HeadBits().add("1 11 011 0 0 101 0 0 0").putInto(x);
            Check.is(state + ": layer 0 is read with new trees", x.read(place, n), n);
            Check.is(state + ": its missing plane", x.got(0, 0, 3), 1);
            Check.is(state + ": its first layer", x.got(0, 0, 4), 0);
            Check.is(state + ": its bytes", x.bytes(0, 0, 0), 5);
        }
    }

    private static void beginLeavesBytes() {
        for (State state : State.values()) {
            PacketHeads before = state.make();
            PacketHeads x = begun(state);
            Check.is(state + ": bytes behind begin", x.at(NONE), before.at(NONE));
            for (int k = 0; k < 20 && k < before.at(NONE); k++) {
                Check.is(state + ": a byte behind begin", x.at(k), before.at(k));
            }
        }
    }

    // Promise 3. "One more band: its number. (Blocks never come in, their missing planes are 0.)"

    private static void bandTellsItsNumber() {
        PacketHeads x = new PacketHeads();
        Check.is("the first band", x.band(3, 2), 0);
        Check.is("the second band", x.band(0, 0), 1);
        Check.is("the third band", x.band(2, 3), 2);
        Check.is("the first one's last block", x.got(0, 5, 5), 3);
        Check.argument("the first one has no more", () -> x.got(0, 6, 5));
        Check.argument("the second one has none", () -> x.got(1, 0, 5));
        Check.is("the third one's last block", x.got(2, 5, 5), 3);
        Check.argument("the third one has no more", () -> x.got(2, 6, 5));
    }

    private static void bandHasBlocksThatNeverComeIn() {
        Refused.state("a block of a new band brings a pass", () -> {
            PacketHeads x = new PacketHeads();
            x.band(2, 1);
            State.tell(x, 0, 1, 1, 1);
            return x;
        }, PacketHeads::write);
        PacketHeads x = new PacketHeads();
        x.band(2, 1);
        x.first(0, 0, 254, 0);
        for (int layer = 0; layer < 254; layer++) {
            x.write();
        }
        State.tell(x, 0, 0, 1, 1);
        x.write();
        // The root and the block are told to be 254, the one beside it not to come in up to there.
        new HeadBits().add("1").times(254, "0").add("1 1").add("1 1").add("0 0 001").add("0")
                .checkWritten("the block beside it doesn't come in in layer 254 either", x, 254);
    }

    private static void bandHasBlocksWithoutMissingPlanes() {
        PacketHeads x = new PacketHeads();
        x.band(2, 1);
        x.first(0, 0, 0, 3);
        State.tell(x, 0, 0, 1, 1);
        x.write();
        new HeadBits().add("1").add("1 1").add("1 0001").add("0 0 001").add("0")
                .checkWritten("the root's number is 0, that of the other block", x, 0);
    }

    // "IllegalArgumentException if wide or high is not 0 .. 64,"

    private static void bandIsUpTo64Wide() {
        for (State state : State.values()) {
            for (int wide : new int[] {-1, 65}) {
                Refused.argument(state + ": wide " + wide, state::make, x -> x.band(wide, 1));
                Refused.argument(state + ": wide " + wide + ", high 0", state::make, x -> x.band(wide, 0));
            }
        }
        for (int wide : new int[] {LEAST, LEAST + 1, -64, 66, 1 << 16, 1 << 30, MOST}) {
            Refused.argument("wide " + wide, PacketHeads::new, x -> x.band(wide, 4));
        }
        PacketHeads x = new PacketHeads();
        Check.is("wide 64", x.band(64, 1), 0);
        Check.is("its last block", x.bring(0, 63, 0), 0);
        Check.argument("no block behind it", () -> x.bring(0, 64, 0));
        Check.is("wide 0", x.band(0, 1), 1);
        Check.is("wide 1", x.band(1, 1), 2);
    }

    private static void bandIsUpTo64High() {
        for (State state : State.values()) {
            for (int high : new int[] {-1, 65}) {
                Refused.argument(state + ": high " + high, state::make, x -> x.band(1, high));
                Refused.argument(state + ": high " + high + ", wide 0", state::make, x -> x.band(0, high));
            }
        }
        for (int high : new int[] {LEAST, LEAST + 1, -64, 66, 1 << 16, 1 << 30, MOST}) {
            Refused.argument("high " + high, PacketHeads::new, x -> x.band(4, high));
        }
        Refused.argument("both below 0", PacketHeads::new, x -> x.band(-1, -1));
        PacketHeads x = new PacketHeads();
        Check.is("high 64", x.band(1, 64), 0);
        Check.is("its last block", x.bring(0, 63, 0), 0);
        Check.argument("no block behind it", () -> x.bring(0, 64, 0));
        Check.is("high 0", x.band(1, 0), 1);
        Check.is("high 1", x.band(1, 1), 2);
    }

    private static void bandMayHaveNoBlocks() {
        int[][] none = {{0, 0}, {0, 64}, {64, 0}};
        PacketHeads x = new PacketHeads();
        for (int band = 0; band < none.length; band++) {
            int it = band;
            Check.is("a band without blocks", x.band(none[band][0], none[band][1]), band);
            Check.argument("it has no block 0", () -> x.first(it, 0, 0, 0));
        }
        Check.is("a head without blocks", x.write(), 1);
        Check.is("it is one bit", x.at(0), 0);
        x.put(128);
        Check.is("a head that says that some come in, and none is there", x.read(1, 1), 1);
    }

    // "or there would be more than 1024 blocks in all;"

    private static void bandsHaveUpTo1024Blocks() {
        int[][] most = {{64, 16}, {16, 64}, {32, 32}};
        int[][] more = {{64, 17}, {17, 64}, {25, 41}, {41, 25}, {33, 32}, {64, 64}};
        for (int[] size : most) {
            PacketHeads x = new PacketHeads();
            Check.is("1024 blocks in one band", x.band(size[0], size[1]), 0);
            Check.is("the last one", x.bring(0, 1023, 0), 0);
            Check.argument("no block behind it", () -> x.bring(0, 1024, 0));
        }
        for (int[] size : more) {
            Refused.argument(size[0] * size[1] + " blocks in one band", PacketHeads::new,
                    x -> x.band(size[0], size[1]));
        }
        Refused.argument("1025 blocks in two bands", () -> bands(31, 33, 0, 0), x -> x.band(1, 2));
        Check.is("1024 blocks in two bands", bands(31, 33, 0, 0).band(1, 1), 2);
        Refused.argument("1025 blocks in three bands", () -> bands(31, 31, 1, 31), x -> x.band(3, 11));
        Check.is("1024 blocks in three bands", bands(31, 31, 1, 31).band(4, 8), 2);
        Refused.argument("1024 blocks and one", () -> bands(32, 16, 16, 32), x -> x.band(1, 1));
        Check.is("1024 blocks and none", bands(32, 16, 16, 32).band(64, 0), 2);
        PacketHeads x = bands(31, 33, 1, 1);
        x.begin(0);
        Check.is("a new precinct has 1024 of its own", x.band(64, 16), 0);
    }

    private static PacketHeads bands(int wide, int high, int nextWide, int nextHigh) {
        PacketHeads x = new PacketHeads();
        x.band(wide, high);
        x.band(nextWide, nextHigh);
        return x;
    }

    // "IllegalStateException if there are three bands, a head was written or read, or reading is over."

    private static void bandsAreUpToThree() {
        Refused.state("a fourth band", State.TOLD::make, x -> x.band(1, 1));
        Refused.state("a fourth band without blocks", State.TOLD::make, x -> x.band(0, 0));
        Refused.state("a fourth band behind three without blocks", () -> {
            PacketHeads x = bands(0, 0, 0, 0);
            x.band(0, 0);
            return x;
        }, x -> x.band(0, 0));
        Refused.argument("a fourth band that is too wide as well", State.TOLD::make, x -> x.band(65, 0));
    }

    private static PacketHeads oneBand() {
        PacketHeads x = new PacketHeads();
        x.put(0);
        x.band(2, 1);
        return x;
    }

    private static void bandComesBeforeWrittenHeads() {
        Refused.state("a band behind a written head", () -> {
            PacketHeads x = oneBand();
            x.write();
            return x;
        }, x -> x.band(1, 1));
        Refused.state("a first band behind a written head", () -> {
            PacketHeads x = new PacketHeads();
            x.write();
            return x;
        }, x -> x.band(0, 0));
        Refused.state("a band behind 255 written heads", () -> {
            PacketHeads x = oneBand();
            for (int layer = 0; layer < 255; layer++) {
                x.write();
            }
            return x;
        }, x -> x.band(1, 1));
        PacketHeads refused = oneBand();
        State.tell(refused, 0, 0, 1, 1);
        Check.state("a head that can't be written", refused::write);
        Check.is("a band behind a head that was refused", refused.band(1, 1), 1);
    }

    private static void bandComesBeforeReadHeads() {
        Refused.state("a band behind a read head", () -> {
            PacketHeads x = oneBand();
            x.read(0, 1);
            return x;
        }, x -> x.band(1, 1));
        PacketHeads refused = oneBand();
        Check.argument("bytes that can't be read", () -> refused.read(0, 2));
        Check.is("a band behind a read that was refused", refused.band(1, 1), 1);
    }

    private static void bandComesBeforeReadingIsOver() {
        Refused.state("a band when reading is over at the first head", () -> {
            PacketHeads x = oneBand();
            Check.unsupported("a head without bytes", () -> x.read(0, 0));
            Check.is("no head was read", x.layers(1), 0);
            return x;
        }, x -> x.band(1, 1));
        Refused.argument("a band too high when reading is over", State.OVER::make, x -> x.band(1, 65));
    }

    // Promise 4. "IllegalArgumentException if there is no such block, layer or number;"

    private static void firstNamesABlock() {
        int[][] none = {{-1, 0}, {3, 0}, {LEAST, 0}, {MOST, 0}, {0, -1}, {0, 4}, {0, LEAST}, {0, MOST}, {1, 0}, {1, -1},
            {2, -1}, {2, 3}};
        for (State state : State.values()) {
            for (int[] it : none) {
                Refused.argument(state + ": first of band " + it[0] + ", block " + it[1], state::make,
                        x -> x.first(it[0], it[1], 0, 0));
            }
        }
        PacketHeads x = State.TOLD.make();
        int[][] blocks = {{0, 0}, {0, 3}, {2, 0}, {2, 2}};
        for (int[] it : blocks) {
            Check.nothing("first of band " + it[0] + ", block " + it[1], () -> x.first(it[0], it[1], 0, 0));
        }
    }

    // "A block's first layer (NONE: never; otherwise 0 .. 254)"

    private static void firstTakesLayers() {
        for (State state : State.values()) {
            for (int layer : new int[] {-2, 255}) {
                Refused.argument(state + ": layer " + layer, state::make, x -> x.first(0, 0, layer, 0));
            }
        }
        for (int layer : new int[] {LEAST, -3, 256, 999, 1000, 1001, 65536, MOST}) {
            Refused.argument("layer " + layer, State.TOLD::make, x -> x.first(0, 0, layer, 0));
        }
        for (int layer : new int[] {0, 1, 253, 254}) {
            PacketHeads x = block(layer, 0);
            for (int i = 0; i < layer; i++) {
                Check.is("before its first layer " + layer, x.write(), 1);
            }
            Check.state("none in its first layer " + layer, x::write);
            State.tell(x, 0, 0, 1, 1);
            x.write();
            new HeadBits().add("1").times(layer, "0").add("1 1 0 0 001").checkWritten("first layer " + layer, x, layer);
        }
        PacketHeads never = block(NONE, 0);
        for (int i = 0; i < 255; i++) {
            Check.is("a block that never comes in", never.write(), 1);
        }
        Refused.state("a block that never comes in brings a pass", () -> {
            PacketHeads x = block(NONE, 0);
            State.tell(x, 0, 0, 1, 1);
            return x;
        }, PacketHeads::write);
    }

    private static PacketHeads block(int layer, int missing) {
        PacketHeads x = new PacketHeads();
        x.band(1, 1);
        x.first(0, 0, layer, missing);
        return x;
    }

    // "and missing planes," which are 0 to 73

    private static void firstTakesMissingPlanes() {
        for (State state : State.values()) {
            for (int missing : new int[] {-1, 74}) {
                Refused.argument(state + ": missing " + missing, state::make, x -> x.first(0, 0, 0, missing));
                Refused.argument(state + ": missing " + missing + ", never", state::make,
                        x -> x.first(0, 0, NONE, missing));
            }
        }
        for (int missing : new int[] {LEAST, -73, 75, 256, MOST}) {
            Refused.argument("missing " + missing, State.TOLD::make, x -> x.first(0, 0, 0, missing));
        }
        for (int missing : new int[] {0, 1, 72, 73}) {
            PacketHeads x = block(0, missing);
            State.tell(x, 0, 0, 1, 1);
            x.write();
            new HeadBits().add("1 1").times(missing, "0").add("1 0 0 001").checkWritten("missing " + missing, x, 0);
        }
        PacketHeads beside = new PacketHeads();
        beside.band(2, 1);
        beside.first(0, 0, 0, 73);
        beside.first(0, 1, NONE, 73);
        State.tell(beside, 0, 0, 1, 1);
        beside.write();
        new HeadBits().add("1").add("1 1").times(73, "0").add("1 1").add("0 0 001").add("0")
                .checkWritten("73 of a block that never comes in", beside, 0);
    }

    // "IllegalStateException if a head was written."

    private static void firstComesBeforeWrittenHeads() {
        for (State state : new State[] {State.UNDER_WAY, State.OVER, State.ALL_WRITTEN, State.ALL_READ}) {
            Refused.state(state + ": first of a block that came in", state::make, x -> x.first(0, 0, 1, 4));
            Refused.state(state + ": first of a block that didn't", state::make, x -> x.first(0, 2, 254, 0));
            Refused.state(state + ": first of a block that never does", state::make, x -> x.first(2, 2, NONE, 0));
            Refused.state(state + ": a block that is due comes later", state::make, x -> x.first(0, 1, 2, 0));
            Refused.state(state + ": a block that is due never comes", state::make, x -> x.first(0, 1, NONE, 0));
            Refused.state(state + ": a block comes sooner", state::make, x -> x.first(2, 1, 1, 73));
            Refused.state(state + ": a block that never did comes next", state::make, x -> x.first(0, 2, 1, 0));
            Refused.state(state + ": other missing planes", state::make, x -> x.first(2, 1, 2, 72));
            Refused.argument(state + ": first with no such layer", state::make, x -> x.first(0, 0, 255, 0));
            Refused.argument(state + ": first with no such number", state::make, x -> x.first(0, 0, 0, 74));
        }
        PacketHeads x = oneBand();
        State.tell(x, 0, 0, 1, 1);
        Check.state("a head that can't be written", x::write);
        Check.nothing("first behind a head that was refused", () -> x.first(0, 0, 0, 0));
        Check.is("it comes in", x.write(), 2);
    }

    // ".. for writing."

    private static void firstIsForWritingAlone() {
        PacketHeads x = oneBand();
        x.first(0, 0, 0, 9);
        Check.is("no first layer was read", x.got(0, 0, 4), NONE);
        Check.is("no missing planes were read", x.got(0, 0, 3), NONE);
        x.read(0, 1);
        Check.nothing("first behind a read head", () -> x.first(0, 0, 0, 1));
        Check.unsupported("a head without bytes", () -> x.read(0, 0));
        Check.nothing("first when reading is over", () -> x.first(0, 0, 0, 0));
        State.tell(x, 0, 0, 1, 1);
        x.write();
        new HeadBits().add("1").add("1 1").add("1 1").add("0 0 001").add("0").checkWritten("the latest first", x, 1);
    }

    private static void firstMayBeToldAgain() {
        PacketHeads x = block(0, 73);
        x.first(0, 0, 1, 0);
        Check.is("no more in layer 0", x.write(), 1);
        State.tell(x, 0, 0, 1, 1);
        x.write();
        new HeadBits().add("1 01 1 0 0 001").checkWritten("but in layer 1", x, 1);
        PacketHeads never = block(0, 0);
        never.first(0, 0, NONE, 0);
        Check.is("nor ever", never.write(), 1);
        PacketHeads back = block(NONE, 3);
        back.first(0, 0, 0, 2);
        Check.state("or at once", back::write);
    }
}
