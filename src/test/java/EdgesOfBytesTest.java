/** Promises 8 to 10, sentence by sentence: what is just allowed, what just isn't, and what a refused call leaves. */
public final class EdgesOfBytesTest {
    private static final int NONE = PacketHeads.NONE;
    private static final int LEAST = Integer.MIN_VALUE;
    private static final int MOST = Integer.MAX_VALUE;
    private static final int MOST_BYTES = 262144;

    public static void main(String[] args) {
        putTellsHowManyThereAre();
        putTakesBytes();
        putTakes262144();
        putGoesOnInAllStates();
        atTellsEachByte();
        atTellsHowManyThereAre();
        atRefusesOthers();
        clearTakesAllBytes();
        clearTakesNoneIfThereIsNone();
        clearTakesNothingElse();
        Check.end();
    }

    // Promise 8. "One more byte: how many there are."

    private static void putTellsHowManyThereAre() {
        PacketHeads x = new PacketHeads();
        for (int i = 1; i <= 100; i++) {
            Check.is("byte " + i, x.put(i), i);
        }
        for (int i = 1; i <= 100; i++) {
            Check.is("it is there", x.at(i - 1), i);
        }
        x.write();
        Check.is("a byte behind a head", x.put(5), 102);
    }

    // "IllegalArgumentException if it isn't 0 .. 255;"

    private static void putTakesBytes() {
        for (State state : State.values()) {
            for (int b : new int[] {-1, 256}) {
                Refused.argument(state + ": put(" + b + ")", state::make, x -> x.put(b));
            }
        }
        for (int b : new int[] {LEAST, -128, -129, -255, -256, 257, 511, 512, 65535, 65536, MOST}) {
            Refused.argument("put(" + b + ")", State.UNDER_WAY::make, x -> x.put(b));
        }
        PacketHeads x = new PacketHeads();
        int[] bytes = {0, 1, 127, 128, 254, 255};
        for (int i = 0; i < bytes.length; i++) {
            Check.is("put(" + bytes[i] + ")", x.put(bytes[i]), i + 1);
            Check.is("at(" + i + ")", x.at(i), bytes[i]);
        }
    }

    // "UnsupportedOperationException if there are 262,144." So many can't be there within 512 calls.

    private static PacketHeads full(int bytes) {
        PacketHeads x = new PacketHeads();
        for (int i = 0; i < bytes; i++) {
            x.put(i % 251);
        }
        return x;
    }

    private static void putTakes262144() {
        PacketHeads x = full(MOST_BYTES - 1);
        Check.is("byte 262,144", x.put(77), MOST_BYTES);
        Check.is("it is there", x.at(MOST_BYTES - 1), 77);
        Refused.unsupported("byte 262,145", () -> full(MOST_BYTES), y -> y.put(0));
        Refused.argument("one that is none, behind 262,144", () -> full(MOST_BYTES), y -> y.put(256));
        x.begin(0);
        Check.unsupported("byte 262,145 behind begin", () -> x.put(0));
        Check.is("still 262,144", x.at(NONE), MOST_BYTES);
        for (int k = 0; k < MOST_BYTES - 1; k++) {
            if (x.at(k) != k % 251) {
                Check.is("byte " + k, x.at(k), k % 251);
            }
        }
        x.clear();
        Check.is("the first byte behind clear", x.put(9), 1);
    }

    private static void putGoesOnInAllStates() {
        for (State state : State.values()) {
            PacketHeads x = state.make();
            int before = x.at(NONE);
            Check.is(state + ": a byte more", x.put(255), before + 1);
            Check.is(state + ": it is there", x.at(before), 255);
        }
    }

    // Promise 9. "Byte k; how many there are if k is NONE."

    private static void atTellsEachByte() {
        PacketHeads x = new PacketHeads();
        int[] bytes = {255, 0, 128, 127};
        for (int b : bytes) {
            x.put(b);
        }
        for (int k = 0; k < bytes.length; k++) {
            Check.is("byte " + k, x.at(k), bytes[k]);
        }
    }

    private static void atTellsHowManyThereAre() {
        PacketHeads x = new PacketHeads();
        Check.is("none", x.at(NONE), 0);
        x.put(3);
        Check.is("one", x.at(NONE), 1);
        x.write();
        Check.is("two with that of a head", x.at(NONE), 2);
        x.read(1, 1);
        Check.is("two when one was read", x.at(NONE), 2);
        x.clear();
        Check.is("none when they went", x.at(NONE), 0);
    }

    // "IndexOutOfBoundsException for others."

    private static void atRefusesOthers() {
        for (State state : State.values()) {
            for (int k : new int[] {LEAST, LEAST + 1, -3, -2, MOST}) {
                Refused.index(state + ": at(" + k + ")", state::make, x -> x.at(k));
            }
            Refused.index(state + ": at() behind the last byte", state::make, x -> x.at(x.at(NONE)));
            Refused.index(state + ": at() one further", state::make, x -> x.at(x.at(NONE) + 1));
        }
        PacketHeads x = State.UNDER_WAY.make();
        Check.nothing("at() of the last byte", () -> x.at(x.at(NONE) - 1));
        for (int n : new int[] {1, 15, 16, 17, 31, 32, 33, 64, 300}) {
            PacketHeads y = full(n);
            Check.is("the last of " + n, y.at(n - 1), (n - 1) % 251);
            Check.index("one behind the last of " + n, () -> y.at(n));
        }
    }

    // Promise 10. "All bytes go."

    private static void clearTakesAllBytes() {
        for (State state : State.values()) {
            PacketHeads x = state.make();
            x.clear();
            Check.is(state + ": no bytes", x.at(NONE), 0);
            Check.index(state + ": no byte 0", () -> x.at(0));
            Check.argument(state + ": no byte to read", () -> x.read(0, 1));
            Check.is(state + ": the first byte", x.put(66), 1);
            Check.is(state + ": it is there", x.at(0), 66);
            Check.index(state + ": and none behind it", () -> x.at(1));
        }
    }

    private static void clearTakesNoneIfThereIsNone() {
        PacketHeads x = new PacketHeads();
        Check.nothing("clear of none", x::clear);
        Check.nothing("clear once more", x::clear);
        Check.is("still none", x.at(NONE), 0);
    }

    /** Of two objects made alike one loses its bytes and gets them back; both go on alike. */
    private static void clearTakesNothingElse() {
        for (State state : new State[] {State.NEW, State.TOLD, State.UNDER_WAY, State.OVER}) {
            for (Probe.Way way : Probe.Way.values()) {
                PacketHeads plain = state.make();
                PacketHeads cleared = state.make();
                cleared.clear();
                for (int k = 0; k < plain.at(NONE); k++) {
                    cleared.put(plain.at(k));
                }
                Check.same(state + ": clear", Probe.answers(cleared, way), Probe.answers(plain, way));
            }
        }
        PacketHeads written = State.ALL_WRITTEN.make();
        written.clear();
        Check.is("255 heads were written", written.layers(0), 255);
        Check.is("what a block brings stays", written.piece(0, 0, 1), 2);
        PacketHeads read = State.ALL_READ.make();
        read.clear();
        Check.is("255 heads were read", read.layers(1), 255);
        Check.is("what the latest told stays", read.bytes(0, 0, 0), 5);
    }
}
