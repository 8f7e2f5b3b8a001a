import java.util.Arrays;
import java.util.HashSet;
import java.util.Set;

/** Promises 5 to 7, sentence by sentence: what is just allowed, what just isn't, and what a refused call leaves. */
public final class EdgesOfWritingTest {
    private static final int NONE = PacketHeads.NONE;
    private static final int LEAST = Integer.MIN_VALUE;
    private static final int MOST = Integer.MAX_VALUE;
    private static final int[][] NO_BLOCKS = {{-1, 0}, {3, 0}, {LEAST, 0}, {MOST, 0}, {0, -1}, {0, 4}, {0, LEAST},
        {0, MOST}, {1, 0}, {1, -1}, {2, -1}, {2, 3}};

    public static void main(String[] args) {
        bringNamesABlock();
        bringTakesPasses();
        bringTakes200InAll();
        bringTakes200InAllWithEach();
        bringTakes4096Pieces();
        bringComesInPlaceOfWhatWasTold();
        bringLeavesOtherBlocksPieces();
        bringLeavesNoBytesTold();
        bringTellsPieces();
        bringNumbersPassesOn();
        bringIsForTheNextPacket();
        pieceNamesABlock();
        pieceTakesBytes();
        pieceTellsHowManyHaveBytes();
        pieceIsRefusedIfAllHaveBytes();
        writeTells255Heads();
        writeRefusesPassesBeforeTheFirstLayer();
        writeRefusesNoneInTheFirstLayer();
        writeRefusesPiecesWithoutBytes();
        writeStandsBehindTheBytes();
        writeUsesUpWhatBlocksBring();
        writeRefusesTooManyBytes();
        headWithoutPassesIsABit();
        allBlocksComeIn();
        lastByteIsFilled();
        lastByteOf255IsFollowed();
        byteBehind255HasSevenBits();
        byteBehind255OfAnotherHeadHasEight();
        inIsToldUpToTheLayer();
        outIsToldUpTo74();
        treesHaveFewerNodesAtTheEnds();
        passesAreToldInFiveWays();
        widthGrowsAtLeast();
        widthStays();
        Check.end();
    }

    private static PacketHeads block(int style, int layer) {
        PacketHeads x = new PacketHeads();
        x.begin(style);
        x.band(1, 1);
        x.first(0, 0, layer, 0);
        return x;
    }

    // Promise 5. "IllegalArgumentException if there is no such block, passes is not 0 .. 164,"

    private static void bringNamesABlock() {
        for (State state : State.values()) {
            for (int[] it : NO_BLOCKS) {
                Refused.argument(state + ": bring of band " + it[0] + ", block " + it[1], state::make,
                        x -> x.bring(it[0], it[1], 1));
            }
        }
        PacketHeads x = State.UNDER_WAY.make();
        int[][] blocks = {{0, 0}, {0, 3}, {2, 0}, {2, 2}};
        for (int[] it : blocks) {
            Check.is("bring of band " + it[0] + ", block " + it[1], x.bring(it[0], it[1], 1), 1);
        }
    }

    private static void bringTakesPasses() {
        for (State state : State.values()) {
            for (int passes : new int[] {-1, 165}) {
                Refused.argument(state + ": " + passes + " passes", state::make, x -> x.bring(0, 0, passes));
            }
        }
        for (int passes : new int[] {LEAST, -164, 166, 200, 201, 256, 65536, MOST, MOST - 100}) {
            Refused.argument(passes + " passes", State.UNDER_WAY::make, x -> x.bring(0, 0, passes));
        }
        PacketHeads x = block(4, 0);
        for (int passes : new int[] {0, 1, 163, 164}) {
            Check.is(passes + " passes", x.bring(0, 0, passes), passes);
        }
        PacketHeads never = block(4, NONE);
        Check.is("164 passes of a block that never comes in", never.bring(0, 0, 164), 164);
        Check.is("no passes of it", never.bring(0, 0, 0), 0);
        Check.is("which can be written", never.write(), 1);
    }

    // "it would have more than 200,"

    private static PacketHeads with164Passes() {
        PacketHeads x = block(0, 0);
        State.tell(x, 0, 0, 164, 9);
        x.write();
        return x;
    }

    private static PacketHeads with200Passes() {
        PacketHeads x = with164Passes();
        State.tell(x, 0, 0, 36, 9);
        x.write();
        return x;
    }

    private static void bringTakes200InAll() {
        Refused.argument("164 and 37 passes", EdgesOfWritingTest::with164Passes, x -> x.bring(0, 0, 37));
        Refused.argument("164 and 164 passes", EdgesOfWritingTest::with164Passes, x -> x.bring(0, 0, 164));
        Check.is("164 and 36 passes", with164Passes().bring(0, 0, 36), 1);
        Check.is("164 and 35 passes", with164Passes().bring(0, 0, 35), 1);
        Refused.argument("200 and 1 pass", EdgesOfWritingTest::with200Passes, x -> x.bring(0, 0, 1));
        Refused.argument("200 and 164 passes", EdgesOfWritingTest::with200Passes, x -> x.bring(0, 0, 164));
        Check.is("200 and no passes", with200Passes().bring(0, 0, 0), 0);
        PacketHeads x = block(0, 0);
        x.bring(0, 0, 164);
        Check.is("what is told in place of others counts alone", x.bring(0, 0, 164), 1);
        PacketHeads two = new PacketHeads();
        two.band(2, 1);
        two.first(0, 0, 0, 0);
        State.tell(two, 0, 0, 164, 0);
        two.write();
        Check.is("each block counts by itself", two.bring(0, 1, 164), 1);
        two.begin(0);
        two.band(1, 1);
        Check.is("so does each precinct", two.bring(0, 0, 164), 1);
    }

    private static void bringTakes200InAllWithEach() {
        Refused.argument("199 passes, each by itself, and 2", EdgesOfWritingTest::with199Passes, x -> x.bring(0, 0, 2));
        PacketHeads x = with199Passes();
        Check.is("199 passes, each by itself, and 1", x.bring(0, 0, 1), 1);
        x.piece(0, 0, 0);
        Check.is("which is written", x.write(), 1);
        Check.argument("one more", () -> x.bring(0, 0, 1));
    }

    private static PacketHeads with199Passes() {
        PacketHeads x = block(4, 0);
        for (int passes : new int[] {100, 99}) {
            x.bring(0, 0, passes);
            for (int i = 0; i < passes; i++) {
                x.piece(0, 0, 0);
            }
            x.write();
        }
        return x;
    }

    // "or all blocks more than 4096 pieces in this packet."

    /** Three bands whose blocks are to bring 4096 pieces less some. */
    private static PacketHeads manyPieces(int less) {
        PacketHeads x = new PacketHeads();
        x.begin(4);
        x.band(4, 4);
        x.band(3, 3);
        x.band(2, 2);
        for (int b = 0; b < 24; b++) {
            x.bring(b < 16 ? 0 : 1, b < 16 ? b : b - 15, 164);
        }
        x.bring(1, 0, 160 - less);
        x.piece(1, 0, 7);
        return x;
    }

    private static void bringTakes4096Pieces() {
        Refused.argument("4096 pieces and 1", () -> manyPieces(0), x -> x.bring(2, 0, 1));
        Refused.argument("4096 pieces and 1 in place of others", () -> manyPieces(0), x -> x.bring(1, 0, 161));
        Refused.argument("4095 pieces and 2", () -> manyPieces(1), x -> x.bring(2, 3, 2));
        Check.is("4095 pieces and 1", manyPieces(1).bring(2, 3, 1), 1);
        Check.is("4095 pieces and 1 in place of others", manyPieces(1).bring(1, 0, 160), 160);
        PacketHeads x = manyPieces(0);
        Check.is("4096 pieces and none", x.bring(2, 0, 0), 0);
        Check.is("as many in place of others", x.bring(0, 0, 164), 164);
        Check.is("one less in place of others", x.bring(0, 5, 163), 163);
        Check.is("and one more then", x.bring(2, 0, 1), 1);
        Check.argument("but not two", () -> x.bring(2, 0, 2));
        Check.is("a refused one counts no pieces", x.bring(2, 0, 1), 1);
        for (int i = 0; i < 3; i++) {
            Check.is("one in place of one", x.bring(2, 0, 1), 1);
        }
        x.begin(4);
        x.band(2, 1);
        Check.is("a new precinct counts anew", x.bring(0, 0, 164), 164);
        PacketHeads lone = manyPieces(0);
        lone.begin(0);
        lone.band(64, 16);
        for (int b = 0; b < 400; b++) {
            lone.bring(0, b, 164);
        }
        Check.is("passes are no pieces", lone.bring(0, 1023, 164), 1);
    }

    // "What a block brings .. (in place of what was told before); its pieces have no bytes told."

    private static void bringComesInPlaceOfWhatWasTold() {
        PacketHeads x = block(4, 0);
        State.tell(x, 0, 0, 3, 1, 2, 3);
        State.tell(x, 0, 0, 1, 4);
        x.write();
        new HeadBits().add("1 1 1 0 0 100").checkWritten("the latest counts", x, 0);
        PacketHeads none = block(4, NONE);
        none.bring(0, 0, 5);
        Check.is("none in place of some", none.bring(0, 0, 0), 0);
        Check.is("and none is written", none.write(), 1);
    }

    /** Each of three blocks is told again when all have bytes; those of the others stay. */
    private static void bringLeavesOtherBlocksPieces() {
        for (int again = 0; again < 3; again++) {
            for (int pieces = 0; pieces <= 3; pieces++) {
                PacketHeads x = new PacketHeads();
                x.begin(4);
                x.band(3, 1);
                HeadBits due = new HeadBits().add("1");
                for (int b = 2; b >= 0; b--) {
                    x.first(0, b, b == again && pieces == 0 ? 1 : 0, 0);
                    State.tell(x, 0, b, 2, b + 1, b + 4);
                }
                x.bring(0, again, pieces);
                for (int i = 0; i < pieces; i++) {
                    x.piece(0, again, 7 - i);
                }
                x.write();
                for (int b = 0; b < 3; b++) {
                    boolean none = b == again && pieces == 0;
                    // The root, the node above blocks 0 and 1 or 2, and the block; the OUT tree likewise, if it comes.
                    due.times(b == 0 ? 2 : b == 1 ? 0 : none ? 0 : 1, "1").add(none ? "0" : "1");
                    if (!none) {
                        boolean firstOfAll = b == 0 || b == 1 && again == 0 && pieces == 0;
                        due.times(firstOfAll ? 3 : b == 1 ? 1 : 2, "1");
                        due.add(b != again || pieces == 2 ? "10" : pieces == 1 ? "0" : "1100").add("0");
                        for (int i = 0; i < (b == again ? pieces : 2); i++) {
                            due.number(b == again ? 7 - i : b + 1 + 3 * i, 3);
                        }
                    }
                }
                due.checkWritten("block " + again + " is told again, with " + pieces + " passes", x, 0);
            }
        }
    }

    private static void bringLeavesNoBytesTold() {
        PacketHeads x = block(4, 0);
        State.tell(x, 0, 0, 2, 5, 6);
        Check.is("as many again", x.bring(0, 0, 2), 2);
        Check.state("they have no bytes", x::write);
        Check.is("the first is told first", x.piece(0, 0, 1), 1);
        Check.state("one has none", x::write);
        Check.is("the second is told next", x.piece(0, 0, 2), 2);
        x.write();
        new HeadBits().add("1 1 1 10 0 001 010").checkWritten("the latest bytes count", x, 0);
    }

    // "How many pieces there will be." A segment ends with EACH behind every pass; with BYPASS behind pass k if k is
    // 9 or more and k mod 3 is 0, or k is 10 or more and k mod 3 is 2. A piece ends there, and behind the last pass.

    private static boolean endsBehind(int k) {
        int[] ends = {9, 11, 12, 14, 15, 17, 18, 20, 21, 23, 24, 26, 27, 29, 30};
        for (int end : ends) {
            if (k == end) {
                return true;
            }
        }
        return false;
    }

    private static void bringTellsPieces() {
        PacketHeads none = block(0, 0);
        PacketHeads bypass = block(1, 0);
        PacketHeads each = block(4, 0);
        PacketHeads both = block(5, 0);
        int ended = 0;
        for (int passes = 1; passes <= 30; passes++) {
            int last = passes - 1;
            ended += endsBehind(last) ? 1 : 0;
            Check.is("style 0: " + passes, none.bring(0, 0, passes), 1);
            Check.is("BYPASS: " + passes, bypass.bring(0, 0, passes), endsBehind(last) ? ended : ended + 1);
            Check.is("EACH: " + passes, each.bring(0, 0, passes), passes);
            Check.is("both: " + passes, both.bring(0, 0, passes), passes);
        }
        PacketHeads[] all = {none, bypass, each, both};
        int[] due = {1, 104, 164, 164};
        for (int i = 0; i < all.length; i++) {
            Check.is("no passes, no pieces", all[i].bring(0, 0, 0), 0);
            Check.is("164 passes", all[i].bring(0, 0, 164), due[i]);
        }
    }

    /** "Its passes are numbered from 0 on", over all packets: the next one is the pass behind the latest. */
    private static void bringNumbersPassesOn() {
        for (int before = 1; before <= 29; before++) {
            PacketHeads x = block(1, 0);
            int pieces = x.bring(0, 0, before);
            for (int i = 0; i < pieces; i++) {
                x.piece(0, 0, 0);
            }
            x.write();
            Check.is("one pass behind " + before, x.bring(0, 0, 1), 1);
            Check.is("two passes behind " + before, x.bring(0, 0, 2), endsBehind(before) ? 2 : 1);
        }
        PacketHeads last = block(1, 0);
        State.tell(last, 0, 0, 8, 0);
        last.write();
        // Passes 8 and 9 are one piece, 10 and 11 one, 12 one.
        Check.is("five passes from 8 on", last.bring(0, 0, 5), 3);
    }

    // "What a block brings in the packet that is written next"

    private static void bringIsForTheNextPacket() {
        PacketHeads x = block(4, 0);
        State.tell(x, 0, 0, 2, 1, 1);
        x.write();
        Check.state("nothing is brought in the packet behind it", () -> x.piece(0, 0, 1));
        Check.is("which is empty", x.write(), 1);
        PacketHeads all = State.ALL_WRITTEN.make();
        Check.is("bring behind 255 heads", all.bring(0, 3, 1), 1);
        Check.state("but no packet is next", all::write);
    }

    // Promise 6. "IllegalArgumentException if there is no such block, or bytes is not 0 .. 65,535;"

    private static void pieceNamesABlock() {
        for (State state : State.values()) {
            for (int[] it : NO_BLOCKS) {
                Refused.argument(state + ": piece of band " + it[0] + ", block " + it[1], state::make,
                        x -> x.piece(it[0], it[1], 1));
            }
        }
        PacketHeads x = State.TOLD.make();
        int[][] blocks = {{0, 0}, {0, 3}, {2, 0}, {2, 2}};
        for (int[] it : blocks) {
            x.bring(it[0], it[1], 1);
            Check.is("piece of band " + it[0] + ", block " + it[1], x.piece(it[0], it[1], 1), 1);
        }
    }

    private static void pieceTakesBytes() {
        for (State state : State.values()) {
            for (int bytes : new int[] {-1, 65536}) {
                Refused.argument(state + ": " + bytes + " bytes", state::make, x -> x.piece(0, 0, bytes));
                Refused.argument(state + ": " + bytes + " bytes of none", state::make, x -> x.piece(0, 2, bytes));
            }
        }
        for (int bytes : new int[] {LEAST, -65535, 65537, 131071, 1 << 20, MOST}) {
            Refused.argument(bytes + " bytes", State.TOLD::make, x -> x.piece(2, 0, bytes));
        }
        int[] lengths = {0, 1, 65534, 65535};
        PacketHeads x = block(4, 0);
        x.bring(0, 0, lengths.length);
        HeadBits due = new HeadBits().add("1 1 1 1101").times(13, "1").add("0");
        for (int i = 0; i < lengths.length; i++) {
            Check.is(lengths[i] + " bytes", x.piece(0, 0, lengths[i]), i + 1);
            due.number(lengths[i], 16);
        }
        x.write();
        due.checkWritten("all of them", x, 0);
    }

    // "The bytes of the next piece of a block that has none told: how many pieces have."

    private static void pieceTellsHowManyHaveBytes() {
        PacketHeads x = new PacketHeads();
        x.begin(4);
        x.band(2, 1);
        x.bring(0, 0, 164);
        x.bring(0, 1, 2);
        Check.is("another block's first", x.piece(0, 1, 9), 1);
        for (int i = 1; i <= 164; i++) {
            Check.is("piece " + i, x.piece(0, 0, i), i);
        }
        Check.is("another block's second", x.piece(0, 1, 9), 2);
    }

    // "IllegalStateException if all pieces have."

    private static void pieceIsRefusedIfAllHaveBytes() {
        for (State state : State.values()) {
            if (state.hasBlocks()) {
                Refused.state(state + ": a piece of a block that brings none", state::make, x -> x.piece(2, 2, 1));
            }
        }
        Refused.state("a third of two pieces", State.TOLD::make, x -> x.piece(0, 0, 1));
        Refused.state("a second of one piece", State.TOLD::make, x -> x.piece(0, 3, 1));
        PacketHeads last = State.TOLD.make();
        Check.is("the second of two", last.piece(2, 0, 1), 2);
        Check.state("the third of two", () -> last.piece(2, 0, 1));
        Refused.state("a piece behind the head", State.ALL_READ::make, x -> x.piece(2, 0, 1));
        PacketHeads none = block(0, 0);
        State.tell(none, 0, 0, 1, 1);
        none.bring(0, 0, 0);
        Check.state("a piece of no passes", () -> none.piece(0, 0, 1));
    }

    // Promise 7. "IllegalStateException if 255 were written;"

    private static void writeTells255Heads() {
        PacketHeads x = new PacketHeads();
        for (int layer = 0; layer < 255; layer++) {
            Check.is("layer " + layer, x.write(), 1);
        }
        Check.state("layer 255", x::write);
        Check.is("255 heads", x.layers(0), 255);
        Check.is("of a byte each", x.at(NONE), 255);
        Refused.state("a head behind 255", State.ALL_WRITTEN::make, PacketHeads::write);
        x.begin(0);
        Check.is("a new precinct has 255 of its own", x.write(), 1);
    }

    // "a block brings passes before its first layer, or none in it;"

    private static PacketHeads early(int layer, int written) {
        PacketHeads x = block(0, layer);
        for (int i = 0; i < written; i++) {
            x.write();
        }
        State.tell(x, 0, 0, 1, 1);
        return x;
    }

    private static void writeRefusesPassesBeforeTheFirstLayer() {
        int[][] cases = {{1, 0}, {2, 1}, {5, 0}, {254, 253}, {NONE, 0}, {NONE, 254}};
        for (int[] it : cases) {
            Refused.state("first layer " + it[0] + ", passes in layer " + it[1], () -> early(it[0], it[1]),
                    PacketHeads::write);
        }
        Check.is("first layer 1, passes in layer 1", early(1, 1).write(), 2);
        Check.is("first layer 0, passes in layer 0", early(0, 0).write(), 1);
        Refused.state("one of several blocks is too early", () -> {
            PacketHeads x = State.TOLD.make();
            x.piece(2, 0, 6);
            State.tell(x, 2, 1, 1, 1);
            return x;
        }, PacketHeads::write);
    }

    private static void writeRefusesNoneInTheFirstLayer() {
        for (int layer : new int[] {0, 1, 254}) {
            Refused.state("none in the first layer " + layer, () -> {
                PacketHeads x = early(layer, layer);
                x.bring(0, 0, 0);
                return x;
            }, PacketHeads::write);
        }
        Refused.state("one of several blocks does not come", () -> {
            PacketHeads x = State.TOLD.make();
            x.piece(2, 0, 6);
            x.bring(0, 3, 0);
            return x;
        }, PacketHeads::write);
        PacketHeads x = early(1, 0);
        x.bring(0, 0, 0);
        Check.is("none before it", x.write(), 1);
        State.tell(x, 0, 0, 1, 1);
        Check.is("one in it", x.write(), 2);
        Check.is("none behind it", x.write(), 1);
        Check.is("none behind it once more", x.write(), 1);
    }

    // "or a piece has no bytes told."

    private static void writeRefusesPiecesWithoutBytes() {
        Refused.state("no piece has bytes", () -> {
            PacketHeads x = block(4, 0);
            x.bring(0, 0, 2);
            return x;
        }, PacketHeads::write);
        Refused.state("the last piece has none", () -> {
            PacketHeads x = block(4, 0);
            State.tell(x, 0, 0, 2, 1);
            return x;
        }, PacketHeads::write);
        Refused.state("one piece of the last block has none", State.TOLD::make, PacketHeads::write);
        Refused.state("two pieces of the first block have none", State.UNDER_WAY::make, PacketHeads::write);
        PacketHeads zero = block(4, 0);
        State.tell(zero, 0, 0, 2, 0, 0);
        Check.is("0 bytes are told too", zero.write(), 2);
    }

    // "The head of the next layer is written behind the bytes that there are: how many bytes it has."

    private static void writeStandsBehindTheBytes() {
        PacketHeads x = block(0, 0);
        x.put(255);
        State.tell(x, 0, 0, 1, 7);
        Check.is("a head of one byte", x.write(), 1);
        Check.is("the byte before it stays", x.at(0), 255);
        Check.is("and does not count as its own", x.at(1), 0b11100111);
        State.tell(x, 0, 0, 1, 65535);
        Check.is("a head of five bytes", x.write(), 5);
        Check.is("seven bytes in all", x.at(NONE), 7);
        // 110 11111 | 11111111 | (0) 0 111111 | 11111111 | (0) 11 and 0s.
        Check.is("the last of them", x.at(6), 0b01100000);
        x.clear();
        Check.is("a head behind no bytes", x.write(), 1);
        Check.is("it is the first", x.at(0), 0);
    }

    // "(What blocks bring is used up.)"

    private static void writeUsesUpWhatBlocksBring() {
        PacketHeads x = State.TOLD.make();
        x.piece(2, 0, 6);
        x.write();
        int[][] blocks = {{0, 0}, {0, 3}, {2, 0}};
        for (int[] it : blocks) {
            Check.state("no piece any more", () -> x.piece(it[0], it[1], 1));
        }
        Check.state("block 1 comes next", x::write);
        State.tell(x, 0, 1, 1, 1);
        int place = x.at(NONE);
        x.write();
        // Blocks 0 and 3 bring none, block 1 comes in without missing planes (nor has block 2), block 2 never; those
        // of the last band: one brings none, and the root above the others is known, so that each is told by itself.
        new HeadBits().add("1").add("0").add("1 1 0 0 001").add("0").add("0").add("0 0 0")
                .checkWritten("the head of layer 1", x, place);
        PacketHeads pieces = new PacketHeads();
        pieces.begin(4);
        pieces.band(5, 5);
        pieces.first(0, 0, 0, 0);
        pieces.bring(0, 0, 164);
        for (int i = 0; i < 164; i++) {
            pieces.piece(0, 0, 0);
        }
        pieces.write();
        for (int b = 1; b < 25; b++) {
            pieces.bring(0, b, 164);
        }
        Check.is("nor do its pieces count any more", pieces.bring(0, 0, 36), 36);
    }

    // "UnsupportedOperationException if there are more than 131,072 bytes." So many can't be there within 512 calls.

    private static PacketHeads full(int bytes) {
        PacketHeads x = block(0, 0);
        State.tell(x, 0, 0, 1, 7);
        for (int i = 0; i < bytes; i++) {
            x.put(255);
        }
        return x;
    }

    private static void writeRefusesTooManyBytes() {
        Check.is("behind 131,071 bytes", full(131071).write(), 1);
        Check.is("behind 131,072 bytes", full(131072).write(), 1);
        Refused.unsupported("behind 131,073 bytes", () -> full(131073), PacketHeads::write);
        Refused.unsupported("behind 262,144 bytes", () -> full(262144), PacketHeads::write);
        PacketHeads x = full(131073);
        x.bring(0, 0, 0);
        Check.state("a head that can't be, behind too many", x::write);
        State.tell(x, 0, 0, 1, 7);
        x.clear();
        Check.is("behind none", x.write(), 1);
    }

    // "One bit 0, if no block brings a pass; that is all."

    private static void headWithoutPassesIsABit() {
        PacketHeads x = new PacketHeads();
        x.band(32, 32);
        for (int layer = 0; layer < 3; layer++) {
            Check.is("a head of 1024 blocks that bring none", x.write(), 1);
            Check.is("it is one bit 0", x.at(layer), 0);
        }
    }

    /** All of them, told from the last one on, and every third told again. */
    private static void allBlocksComeIn() {
        int[][] shapes = {{1, 1}, {15, 1}, {4, 4}, {17, 1}, {31, 1}, {8, 4}, {3, 11}, {8, 8}};
        for (int[] it : shapes) {
            int blocks = it[0] * it[1];
            PacketHeads x = new PacketHeads();
            x.begin(4);
            x.band(it[0], it[1]);
            for (int b = blocks - 1; b >= 0; b--) {
                x.first(0, b, 0, b % 74);
                State.tell(x, 0, b, 1, b);
            }
            for (int b = 0; b < blocks; b += 3) {
                State.tell(x, 0, b, 1, 1000 + b);
            }
            int n = x.write();
            PacketHeads y = new PacketHeads();
            y.begin(4);
            y.band(it[0], it[1]);
            for (int k = 0; k < n; k++) {
                y.put(x.at(k));
            }
            Check.is("a head of " + blocks + " blocks", y.read(0, n), n);
            for (int b = 0; b < blocks; b++) {
                Check.is("a block's missing planes", y.got(0, b, 3), b % 74);
                Check.is("a block's bytes", y.bytes(0, b, 0), b % 3 == 0 ? 1000 + b : b);
            }
        }
    }

    // "At the end the last byte is filled with 0s; if it is 255, a byte 0 follows."

    private static void lastByteIsFilled() {
        // A head of 8, 9, .. bits: 1 1 1 0 0 and three, or more zeros in OUT.
        for (int missing = 0; missing < 18; missing++) {
            PacketHeads x = new PacketHeads();
            x.band(1, 1);
            x.first(0, 0, 0, missing);
            State.tell(x, 0, 0, 1, 7);
            Check.is(8 + missing + " bits", x.write(), (8 + missing + 7) / 8);
            new HeadBits().add("1 1").times(missing, "0").add("1 0 0 111").checkWritten("missing " + missing, x, 0);
        }
    }

    private static void lastByteOf255IsFollowed() {
        PacketHeads x = block(0, 0);
        State.tell(x, 0, 0, 1, 2047);
        Check.is("a last byte of 255", x.write(), 4);
        // 111 0 1111 | 1111 0 111 | 11111111 | 0
        int[] due = {0b11101111, 0b11110111, 0b11111111, 0};
        checkBytes("a last byte of 255", x, due);
        PacketHeads less = block(0, 0);
        State.tell(less, 0, 0, 1, 2046);
        Check.is("a last byte of 254", less.write(), 3);
        Check.is("it is the last", less.at(2), 254);
        // 111 10 1 0 1 | 1111: two passes, and 31 bytes in 4 + 1 bits; a last byte that is not full is not 255.
        PacketHeads part = block(0, 0);
        State.tell(part, 0, 0, 2, 31);
        Check.is("a last byte with four 1s", part.write(), 2);
        Check.is("filled with 0s", part.at(1), 0b11110000);
        // 111 10 111 | 11111111 | (0) 11 0 1111 | 11111111 | (0) 1111111 | 11111111 | (0) 11111 and 0s.
        PacketHeads behind = block(4, 0);
        State.tell(behind, 0, 0, 2, 65535, 65535);
        behind.write();
        int[] many = {0b11110111, 0b11111111, 0b01101111, 0b11111111, 0b01111111, 0b11111111, 0b01111100};
        checkBytes("1s behind 255", behind, many);
        // 11 000000 | 0 1 0 11111 | 1111111 0 | 11111111 | (0) 1111111: seven missing planes, width 15. 127 is no 255.
        PacketHeads seven = new PacketHeads();
        seven.band(1, 1);
        seven.first(0, 0, 0, 7);
        State.tell(seven, 0, 0, 1, 32767);
        seven.write();
        int[] end = {0b11000000, 0b01011111, 0b11111110, 0b11111111, 0b01111111};
        checkBytes("seven 1s behind 255", seven, end);
        // 111 0 1111 | 11111 0 11 | 11111111 | (0) 11 and 0s: width 12. Two 1s more are not enough for a 255.
        PacketHeads after = block(0, 0);
        State.tell(after, 0, 0, 1, 4095);
        after.write();
        int[] two = {0b11101111, 0b11111011, 0b11111111, 0b01100000};
        checkBytes("1s left behind 255", after, two);
    }

    // "a byte behind a 255 (of the same head) has 0 as highest bit and seven others"

    private static void byteBehind255HasSevenBits() {
        PacketHeads x = block(0, 0);
        // 111 11111 | (0) 1111 111 | 1111 1111 | (0) 0 100000 | 01111111: 164 passes, 4 wider, 14 bits.
        State.tell(x, 0, 0, 164, 0b10000001111111);
        x.write();
        int[] one = {0b11111111, 0b01111111, 0b11111111, 0b00100000, 0b01111111};
        checkBytes("a byte behind 255", x, one);
        PacketHeads next = block(4, 0);
        // 111 10 111 | 1111111 0 | 11111111 | (0) 1111111 | 11111111 | (0) 111 and 0s: width 13, twice 13 bits.
        State.tell(next, 0, 0, 2, 8191, 8191);
        next.write();
        int[] several = {0b11110111, 0b11111110, 0b11111111, 0b01111111, 0b11111111, 0b01110000};
        checkBytes("bytes behind several 255s", next, several);
    }

    private static void byteBehind255OfAnotherHeadHasEight() {
        PacketHeads x = block(0, 0);
        x.put(255);
        State.tell(x, 0, 0, 1, 2047);
        x.write();
        State.tell(x, 0, 0, 37, 1);
        x.write();
        // 11 111111 | (0) 111 0000 | 000 0 0000 | 00000000 | 0001 and 0s: width 11, 16 bits.
        int[] due = {255, 0b11101111, 0b11110111, 255, 0, 255, 0b01110000, 0b00000000, 0b00000000, 0b00010000};
        checkBytes("heads behind 255s", x, due);
        PacketHeads partial = block(0, 0);
        // 111 10 0 11 | 11 and 0s: what is left in a last byte is no part of the next head.
        State.tell(partial, 0, 0, 2, 15);
        partial.write();
        State.tell(partial, 0, 0, 37, 255);
        partial.write();
        // 11 111111 | (0) 111 0000 | 000 0 1111 | 1111 and 0s: width 3, 8 bits.
        int[] next = {0b11110011, 0b11000000, 255, 0b01110000, 0b00001111, 0b11110000};
        checkBytes("a 255 behind a byte that is partly filled", partial, next);
    }

    private static void checkBytes(String what, PacketHeads x, int[] due) {
        Check.is(what + ": bytes", x.at(NONE), due.length);
        for (int k = 0; k < due.length; k++) {
            Check.is(what + ": byte " + k, x.at(k), due[k]);
        }
    }

    // "IN is told up to n + 1."

    private static void inIsToldUpToTheLayer() {
        PacketHeads x = new PacketHeads();
        x.band(2, 1);
        x.first(0, 0, 0, 0);
        x.first(0, 1, 3, 0);
        State.tell(x, 0, 0, 1, 1);
        x.write();
        new HeadBits().add("1 11 11 0 0 001 0").checkWritten("layer 0: one bit of the other block", x, 0);
        int place = x.at(NONE);
        State.tell(x, 0, 0, 1, 1);
        x.write();
        new HeadBits().add("1 1 0 0 001 0").checkWritten("layer 1: one bit more", x, place);
        x.write();
        place = x.at(NONE);
        State.tell(x, 0, 1, 1, 1);
        x.write();
        new HeadBits().add("1 0 0 1 1 0 0 001").checkWritten("layer 3: two bits more, and it comes in", x, place);
    }

    // "OUT is told up to 74."

    private static void outIsToldUpTo74() {
        PacketHeads x = new PacketHeads();
        x.band(2, 1);
        x.first(0, 0, 0, 73);
        x.first(0, 1, 0, 72);
        State.tell(x, 0, 0, 1, 1);
        State.tell(x, 0, 1, 1, 1);
        x.write();
        new HeadBits().add("1").add("1 1").times(72, "0").add("1 01").add("0 0 001").add("1 1 0 0 001")
                .checkWritten("73 and 72 missing planes", x, 0);
    }

    // "one for each two by two of these (from the first row and column on; fewer at the ends) .. up to one alone"

    private static void treesHaveFewerNodesAtTheEnds() {
        int[][] shapes = {{1, 1}, {2, 1}, {1, 2}, {2, 2}, {3, 1}, {1, 3}, {3, 2}, {2, 3}, {3, 3}, {4, 1}, {1, 4},
            {4, 2}, {2, 4}, {4, 3}, {3, 4}, {4, 4}, {5, 1}, {1, 5}, {5, 5}, {6, 7}, {8, 8}, {9, 2}, {2, 9}, {16, 5},
            {33, 31}, {31, 33}, {32, 32}, {64, 1}, {1, 64}, {64, 16}, {16, 64}, {63, 16}, {17, 60}};
        for (int[] it : shapes) {
            int last = it[0] * it[1] - 1;
            writeTree(it[0], it[1], 0);
            writeTree(it[0], it[1], last);
            writeTree(it[0], it[1], 0, last);
            writeTree(it[0], it[1], last / 2, last);
            writeTree(it[0], it[1], it[0] - 1, last + 1 - it[0]);
        }
        PacketHeads three = new PacketHeads();
        three.band(3, 3);
        three.first(0, 4, 0, 1);
        three.first(0, 8, 0, 0);
        State.tell(three, 0, 4, 1, 1);
        State.tell(three, 0, 8, 1, 1);
        three.write();
        // Block 4 stands below the first of two by two with 0, 1 and 3; blocks 2, 5 and 6, 7 in nodes of two, 8 alone.
        new HeadBits().add("1").add("1 1 0").add("0").add("0").add("0").add("1 1 1 01 0 0 001").add("").add("0")
                .add("").add("1 1 1 1 0 0 001").checkWritten("three by three", three, 0);
    }

    /** Two blocks at most come in in layer 0, with one pass of one byte each. */
    private static void writeTree(int wide, int high, int... coming) {
        PacketHeads x = new PacketHeads();
        x.band(wide, high);
        for (int b : coming) {
            x.first(0, b, 0, 0);
            State.tell(x, 0, b, 1, 1);
        }
        x.write();
        HeadBits due = new HeadBits().add("1");
        Set<String> inMet = new HashSet<>();
        Set<String> outMet = new HashSet<>();
        int levels = 1;
        while (1 << levels - 1 < Math.max(wide, high)) {
            levels++;
        }
        for (int b = 0; b < wide * high; b++) {
            boolean comes = true;
            for (int level = levels - 1; level >= 0 && comes; level--) {
                String node = node(b, wide, level);
                comes = false;
                for (int other : coming) {
                    comes |= node.equals(node(other, wide, level));
                }
                due.add(inMet.add(node) ? comes ? "1" : "0" : "");
            }
            for (int level = levels - 1; level >= 0 && comes; level--) {
                due.add(outMet.add(node(b, wide, level)) ? "1" : "");
            }
            due.add(comes ? "0 0 001" : "");
        }
        due.checkWritten("blocks " + Arrays.toString(coming) + " of " + wide + " by " + high, x, 0);
    }

    private static String node(int b, int wide, int level) {
        return level + ": " + (b % wide >> level) + ", " + (b / wide >> level);
    }

    // "1: 0. 2: 1 0. 3 to 5: 1 1 and .. 6 to 36: 1 1 1 1 and .. 37 to 164: nine bits 1 and .."

    private static void passesAreToldInFiveWays() {
        Object[][] codes = {{1, "0"}, {2, "10"}, {3, "11 00"}, {4, "11 01"}, {5, "11 10"}, {6, "1111 00000"},
            {7, "1111 00001"}, {35, "1111 11101"}, {36, "1111 11110"}, {37, "111111111 0000000"},
            {38, "111111111 0000001"}, {163, "111111111 1111110"}, {164, "111111111 1111111"}};
        for (Object[] code : codes) {
            PacketHeads x = block(4, 0);
            int passes = (Integer) code[0];
            x.bring(0, 0, passes);
            for (int i = 0; i < passes; i++) {
                x.piece(0, 0, 5);
            }
            x.write();
            new HeadBits().add("1 1 1").add((String) code[1]).add("0").times(passes, "101")
                    .checkWritten(passes + " passes", x, 0);
        }
    }

    // "So many bits 1 as its width must grow, at least, that the bytes of each of its pieces fit in WIDTH + log bits"

    private static void widthGrowsAtLeast() {
        int[][] logs = {{1, 0}, {2, 1}, {3, 1}, {4, 2}, {7, 2}, {8, 3}, {15, 3}, {16, 4}, {31, 4}, {32, 5}, {63, 5},
            {64, 6}, {127, 6}, {128, 7}, {164, 7}};
        for (int[] it : logs) {
            for (int width = 3; width + it[1] < 16; width++) {
                int least = width == 3 ? 0 : 1 << width + it[1] - 1;
                checkWidth(it[0], least, width, it[1]);
                checkWidth(it[0], (1 << width + it[1]) - 1, width, it[1]);
            }
            checkWidth(it[0], 65535, 16 - it[1], it[1]);
        }
        PacketHeads x = block(1, 0);
        // Pieces of ten passes, two and one: each of them in turn is the one that needs the width 4.
        int[][] bytes = {{64, 15, 7}, {63, 16, 7}, {63, 15, 8}};
        for (int[] it : bytes) {
            x.begin(1);
            x.band(1, 1);
            x.first(0, 0, 0, 0);
            State.tell(x, 0, 0, 13, it);
            int place = x.at(NONE);
            x.write();
            new HeadBits().add("111 1111 00111 10").number(it[0], 7).number(it[1], 5).number(it[2], 4)
                    .checkWritten("the width of the piece that needs most", x, place);
        }
        x.begin(1);
        x.band(1, 1);
        x.first(0, 0, 0, 0);
        State.tell(x, 0, 0, 13, 63, 15, 7);
        int place = x.at(NONE);
        x.write();
        new HeadBits().add("111 1111 00111 0").number(63, 6).number(15, 4).number(7, 3)
                .checkWritten("all pieces just fit", x, place);
    }

    private static void checkWidth(int passes, int bytes, int width, int log) {
        PacketHeads x = block(0, 0);
        State.tell(x, 0, 0, passes, bytes);
        int n = x.write();
        x.read(0, n);
        Check.is(bytes + " bytes of " + passes + " passes: width", x.got(0, 0, 5), width);
        Check.is("bytes", x.bytes(0, 0, 0), bytes);
        int code = passes == 1 ? 1 : passes == 2 ? 2 : passes < 6 ? 4 : passes < 37 ? 9 : 16;
        HeadBits due = new HeadBits().add("111").number(passesCode(passes), code).times(width - 3, "1").add("0");
        due.number(bytes, width + log).checkWritten(bytes + " bytes of " + passes + " passes", x, 0);
    }

    private static int passesCode(int passes) {
        if (passes <= 2) {
            return 2 * (passes - 1);
        }
        return passes < 6 ? 12 + passes - 3 : passes < 37 ? (15 << 5) + passes - 6 : (511 << 7) + passes - 37;
    }

    // "its width is greater by that from then on."

    private static void widthStays() {
        PacketHeads x = block(0, 0);
        State.tell(x, 0, 0, 1, 16);
        x.write();
        new HeadBits().add("111 0 110 10000").checkWritten("a width of 5", x, 0);
        int[] bytes = {0, 31, 32, 1};
        String[] due = {"1 1 0 0 00000", "1 1 0 0 11111", "1 1 0 10 100000", "1 1 0 0 000001"};
        for (int i = 0; i < bytes.length; i++) {
            int place = x.at(NONE);
            State.tell(x, 0, 0, 1, bytes[i]);
            x.write();
            new HeadBits().add(due[i]).checkWritten("a later head, " + i, x, place);
        }
    }
}
