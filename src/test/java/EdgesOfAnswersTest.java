/** Promises 12 to 14, sentence by sentence: what is just allowed, what just isn't, and what a refused call leaves. */
public final class EdgesOfAnswersTest {
    private static final int NONE = PacketHeads.NONE;
    private static final int LEAST = Integer.MIN_VALUE;
    private static final int MOST = Integer.MAX_VALUE;
    private static final int[][] NO_BLOCKS = {{-1, 0}, {3, 0}, {LEAST, 0}, {MOST, 0}, {0, -1}, {0, 4}, {0, LEAST},
        {0, MOST}, {1, 0}, {1, -1}, {2, -1}, {2, 3}};
    private static final int[] NOT_READ = {0, 0, 0, NONE, NONE, 3};

    public static void main(String[] args) {
        gotNamesABlock();
        gotNamesAThing();
        gotWhenNoneWasRead();
        gotPassesOfTheLatestHead();
        gotPieces();
        gotPassesOfAllHeads();
        gotMissingPlanesAndFirstLayer();
        gotWidth();
        gotTellsNothingOfWriting();
        bytesNamesABlock();
        bytesNamesAPiece();
        bytesAreThoseOfTheLatestHead();
        layersNamesAThing();
        layersWritten();
        layersRead();
        layersOver();
        Check.end();
    }

    private static PacketHeads precinct(int style, int wide, int high) {
        PacketHeads x = new PacketHeads();
        x.begin(style);
        x.band(wide, high);
        return x;
    }

    private static void read(PacketHeads x, String bits) {
        int place = x.at(NONE);
        int n = new HeadBits().add(bits).putInto(x);
        Check.is("a head of " + bits, x.read(place, n), n);
    }

    // Promise 12. "IllegalArgumentException if there is no such block or w."

    private static void gotNamesABlock() {
        for (State state : State.values()) {
            for (int[] it : NO_BLOCKS) {
                Refused.argument(state + ": got of band " + it[0] + ", block " + it[1], state::make,
                        x -> x.got(it[0], it[1], 5));
            }
        }
        PacketHeads x = State.TOLD.make();
        int[][] blocks = {{0, 0}, {0, 3}, {2, 0}, {2, 2}};
        for (int[] it : blocks) {
            Check.is("got of band " + it[0] + ", block " + it[1], x.got(it[0], it[1], 5), 3);
        }
    }

    private static void gotNamesAThing() {
        for (State state : State.values()) {
            for (int w : new int[] {-1, 6, LEAST, MOST}) {
                Refused.argument(state + ": got " + w, state::make, x -> x.got(0, 0, w));
            }
        }
        PacketHeads all = State.ALL_READ.make();
        int[] latest = {1, 1, 13, 2, 0, 4};
        for (int w = 0; w < latest.length; w++) {
            Check.is("got " + w + " behind 255 heads", all.got(0, 0, w), latest[w]);
        }
        Check.is("a block's first layer 254", all.got(2, 2, 4), 254);
        PacketHeads x = State.UNDER_WAY.make();
        int[] due = {12, 2, 12, 2, 0, 4};
        for (int w = 0; w < due.length; w++) {
            Check.is("got " + w, x.got(0, 0, w), due[w]);
        }
    }

    // "(0 if none was read)", "(NONE if it did not come in)", "(likewise)"; a width is 3 at first

    private static void gotWhenNoneWasRead() {
        PacketHeads x = precinct(5, 64, 16);
        for (int block : new int[] {0, 1, 1022, 1023}) {
            for (int w = 0; w < NOT_READ.length; w++) {
                Check.is("got " + w + " when no head was read", x.got(0, block, w), NOT_READ[w]);
            }
        }
        read(x, "0");
        read(x, "1 0");
        for (int w = 0; w < NOT_READ.length; w++) {
            Check.is("got " + w + " when two empty ones were", x.got(0, 1023, w), NOT_READ[w]);
        }
        PacketHeads over = State.OVER.make();
        for (int w = 0; w < NOT_READ.length; w++) {
            Check.is("got " + w + " when reading is over", over.got(0, 0, w), NOT_READ[w]);
        }
    }

    // "w = 0 how many passes the latest head told"

    private static void gotPassesOfTheLatestHead() {
        PacketHeads x = precinct(0, 2, 1);
        read(x, "1 11 11 111111111 1111111 0 0000000001 0");
        Check.is("164 passes", x.got(0, 0, 0), 164);
        Check.is("none of the other", x.got(0, 1, 0), 0);
        read(x, "1 1 0 0 001 1 1 10 0 0001");
        Check.is("1 pass", x.got(0, 0, 0), 1);
        Check.is("2 passes of the other", x.got(0, 1, 0), 2);
        read(x, "1 0 1 0 0 001");
        Check.is("none, where another brings some", x.got(0, 0, 0), 0);
        Check.is("1 pass of the other", x.got(0, 1, 0), 1);
        read(x, "0");
        Check.is("none in an empty head", x.got(0, 1, 0), 0);
        PacketHeads y = precinct(0, 1, 1);
        read(y, "1 1 1 10 0 0001");
        Check.argument("bytes that aren't there", () -> y.read(0, 100));
        Check.is("a refused head is not the latest", y.got(0, 0, 0), 2);
    }

    // "1 how many pieces,"

    private static void gotPieces() {
        int[] styles = {0, 1, 4, 5};
        int[] first = {1, 2, 11, 11};
        int[] second = {1, 2, 2, 2};
        for (int i = 0; i < styles.length; i++) {
            PacketHeads x = precinct(styles[i], 1, 1);
            // 11 passes: with BYPASS the passes 0 to 9 and 10; then passes 11 and 12, of which each ends one.
            HeadBits bits = new HeadBits().add("1 1 1 1111 00101 0");
            int n = (styles[i] == 0 ? bits.add("000000") : styles[i] == 1 ? bits.add("000000 000")
                    : bits.times(11, "000")).putInto(x);
            Check.is("11 passes", x.read(0, n), n);
            Check.is("style " + styles[i] + ": pieces of 11 passes", x.got(0, 0, 1), first[i]);
            read(x, styles[i] == 0 ? "1 1 10 0 0000" : "1 1 10 0 000 000");
            Check.is("style " + styles[i] + ": pieces of the next two", x.got(0, 0, 1), second[i]);
            read(x, "0");
            Check.is("style " + styles[i] + ": pieces of none", x.got(0, 0, 1), 0);
        }
    }

    // "2 how many passes all heads told,"

    private static void gotPassesOfAllHeads() {
        PacketHeads x = precinct(0, 2, 1);
        Check.is("none", x.got(0, 0, 2), 0);
        read(x, "1 11 11 111111111 1111111 0 0000000001 0");
        Check.is("164", x.got(0, 0, 2), 164);
        read(x, "1 1 1111 11101 0 00000001 0");
        Check.is("199", x.got(0, 0, 2), 199);
        read(x, "0");
        Check.is("still 199", x.got(0, 0, 2), 199);
        read(x, "1 1 0 0 001 0 1 1 0 0 001");
        Check.is("200", x.got(0, 0, 2), 200);
        Check.is("1 of the other", x.got(0, 1, 2), 1);
    }

    // "3 its missing planes (NONE if it did not come in), 4 its first layer (likewise),"

    private static void gotMissingPlanesAndFirstLayer() {
        PacketHeads x = precinct(0, 2, 1);
        read(x, "0");
        HeadBits bits = new HeadBits().add("1").add("01 1").times(73, "0").add("1 1").add("0 0 001").add("0");
        int place = x.at(NONE);
        int n = bits.putInto(x);
        Check.is("a block in layer 1", x.read(place, n), n);
        Check.is("73 missing planes", x.got(0, 0, 3), 73);
        Check.is("first layer 1", x.got(0, 0, 4), 1);
        Check.is("the other has no missing planes, though it has 73 at least", x.got(0, 1, 3), NONE);
        Check.is("nor a first layer, though it is above 1", x.got(0, 1, 4), NONE);
        read(x, "1 0 1 1 0 0 001");
        Check.is("the other's missing planes", x.got(0, 1, 3), 73);
        Check.is("the other's first layer", x.got(0, 1, 4), 2);
        Check.is("those of the first stay", x.got(0, 0, 3), 73);
        Check.is("as does its first layer", x.got(0, 0, 4), 1);
        PacketHeads none = precinct(0, 1, 1);
        read(none, "1 1 1 0 0 001");
        Check.is("no missing planes are 0", none.got(0, 0, 3), 0);
        Check.is("layer 0", none.got(0, 0, 4), 0);
    }

    // "5 its width."

    private static void gotWidth() {
        PacketHeads x = precinct(0, 2, 1);
        read(x, "1 11 11 0 0 001 0");
        Check.is("no bit 1", x.got(0, 0, 5), 3);
        read(x, "1 1 0 10 0001 0");
        Check.is("one bit 1", x.got(0, 0, 5), 4);
        read(x, "1 1 0 110 000001 0");
        Check.is("two more, though they need not be", x.got(0, 0, 5), 6);
        read(x, "0");
        Check.is("it stays", x.got(0, 0, 5), 6);
        Check.is("the other's is its own", x.got(0, 1, 5), 3);
    }

    // "What was read of a block"

    private static void gotTellsNothingOfWriting() {
        PacketHeads x = precinct(4, 1, 1);
        x.first(0, 0, 0, 7);
        State.tell(x, 0, 0, 2, 100, 200);
        for (int w = 0; w < NOT_READ.length; w++) {
            Check.is("got " + w + " of what is told", x.got(0, 0, w), NOT_READ[w]);
        }
        x.write();
        for (int w = 0; w < NOT_READ.length; w++) {
            Check.is("got " + w + " of what is written", x.got(0, 0, w), NOT_READ[w]);
        }
        Check.index("no piece of what is written", () -> x.bytes(0, 0, 0));
    }

    // Promise 13. "IllegalArgumentException if there is no such block;"

    private static void bytesNamesABlock() {
        for (State state : State.values()) {
            for (int[] it : NO_BLOCKS) {
                Refused.argument(state + ": bytes of band " + it[0] + ", block " + it[1], state::make,
                        x -> x.bytes(it[0], it[1], 0));
                Refused.argument(state + ": no piece of band " + it[0] + ", block " + it[1], state::make,
                        x -> x.bytes(it[0], it[1], -1));
            }
        }
        PacketHeads x = State.UNDER_WAY.make();
        Check.is("the first band's first block", x.bytes(0, 0, 0), 70);
        Check.is("its last block", x.bytes(0, 3, 0), 9);
        Check.is("the last band's first block", x.bytes(2, 0, 0), 4);
        Check.index("its last block came not in", () -> x.bytes(2, 2, 0));
    }

    // "IndexOutOfBoundsException if there is no such piece."

    private static void bytesNamesAPiece() {
        for (State state : State.values()) {
            if (state.hasBlocks()) {
                int behind = state.make().got(2, 2, 1);
                Refused.index(state + ": a piece behind the last one", state::make, x -> x.bytes(2, 2, behind));
                Refused.index(state + ": piece -1", state::make, x -> x.bytes(0, 0, -1));
                Refused.index(state + ": the least piece", state::make, x -> x.bytes(0, 0, LEAST));
                Refused.index(state + ": the most piece", state::make, x -> x.bytes(0, 0, MOST));
                Refused.index(state + ": piece 2", state::make, x -> x.bytes(0, 0, 2));
            }
        }
        Refused.index("a second of one piece", State.UNDER_WAY::make, x -> x.bytes(0, 3, 1));
        PacketHeads x = State.UNDER_WAY.make();
        Check.is("the first of two", x.bytes(0, 0, 0), 70);
        Check.is("the last of two", x.bytes(0, 0, 1), 3);
        PacketHeads many = precinct(4, 1, 1);
        HeadBits bits = new HeadBits().add("1 1 1 111111111 1111111 11111 0");
        for (int i = 0; i < 164; i++) {
            bits.number(i, 8);
        }
        int n = bits.putInto(many);
        Check.is("164 pieces", many.read(0, n), n);
        for (int i = 0; i < 164; i++) {
            Check.is("piece " + i, many.bytes(0, 0, i), i);
        }
        Check.index("piece 164", () -> many.bytes(0, 0, 164));
    }

    // "How many bytes piece i of a block has, as the latest head told."

    private static void bytesAreThoseOfTheLatestHead() {
        PacketHeads x = precinct(4, 2, 1);
        read(x, "1 11 11 10 0 001 010 1 1 0 0 011");
        Check.is("a first head", x.bytes(0, 0, 1), 2);
        Check.is("its other block", x.bytes(0, 1, 0), 3);
        read(x, "1 0 1 10 0 100 101");
        Check.index("a block that brings none", () -> x.bytes(0, 0, 0));
        Check.is("the other one's first", x.bytes(0, 1, 0), 4);
        Check.is("and second", x.bytes(0, 1, 1), 5);
        read(x, "1 1 0 0 110 0");
        Check.is("the first brings one", x.bytes(0, 0, 0), 6);
        Check.index("and no second", () -> x.bytes(0, 0, 1));
        read(x, "0");
        Check.index("none of an empty head", () -> x.bytes(0, 0, 0));
        PacketHeads y = precinct(0, 1, 1);
        read(y, "1 1 1 0 0 111");
        Check.argument("bytes that aren't there", () -> y.read(0, 100));
        Check.is("a refused head is not the latest", y.bytes(0, 0, 0), 7);
    }

    // Promise 14. "IllegalArgumentException for another w."

    private static void layersNamesAThing() {
        for (State state : State.values()) {
            for (int w : new int[] {-1, 3, LEAST, MOST}) {
                Refused.argument(state + ": layers(" + w + ")", state::make, x -> x.layers(w));
            }
        }
    }

    // "How many layers' heads were written (w = 0), were read (1); whether reading is over (2: 1 or 0)."

    private static void layersWritten() {
        int[] due = {0, 0, 1, 1, 255, 1};
        for (State state : State.values()) {
            Check.is(state + ": heads written", state.make().layers(0), due[state.ordinal()]);
        }
        PacketHeads x = State.TOLD.make();
        Check.state("a head that is refused", x::write);
        Check.is("is not written", x.layers(0), 0);
        x.piece(2, 0, 1);
        x.write();
        Check.is("one that is not, is", x.layers(0), 1);
        Check.is("but not read", x.layers(1), 0);
    }

    private static void layersRead() {
        int[] due = {0, 0, 1, 1, 1, 255};
        for (State state : State.values()) {
            Check.is(state + ": heads read", state.make().layers(1), due[state.ordinal()]);
        }
        PacketHeads x = precinct(0, 1, 1);
        Check.argument("bytes that aren't there", () -> x.read(0, 1));
        Check.is("a head that is refused is not read", x.layers(1), 0);
        read(x, "0");
        Check.is("one that is not, is", x.layers(1), 1);
        Check.is("but not written", x.layers(0), 0);
        Check.unsupported("a wrong one", () -> x.read(0, 0));
        Check.is("is not read either", x.layers(1), 1);
    }

    private static void layersOver() {
        for (State state : State.values()) {
            Check.is(state + ": over", state.make().layers(2), state == State.OVER ? 1 : 0);
        }
    }
}
