import java.util.ArrayList;
import java.util.List;

/** A head written out bit by bit, for a test to compare with or to have read. */
final class HeadBits {
    private final StringBuilder bits = new StringBuilder();

    /** Bits; spaces between them are for the reader. */
    HeadBits add(String more) {
        bits.append(more.replace(" ", ""));
        return this;
    }

    HeadBits times(int n, String more) {
        for (int i = 0; i < n; i++) {
            add(more);
        }
        return this;
    }

    HeadBits number(long number, int width) {
        for (int i = width - 1; i >= 0; i--) {
            bits.append(number >> i & 1);
        }
        return this;
    }

    /** The bytes; in a byte behind a 255 and behind the last bit the bits are as told. */
    List<Integer> bytes(char stuffing, char filling) {
        List<Integer> bytes = new ArrayList<>();
        StringBuilder eight = new StringBuilder();
        for (int i = 0; i < bits.length() || eight.length() > 0; i++) {
            eight.append(i < bits.length() ? bits.charAt(i) : filling);
            if (eight.length() == 8) {
                bytes.add(Integer.parseInt(eight.toString(), 2));
                eight.setLength(0);
                if (bytes.get(bytes.size() - 1) == 255) {
                    eight.append(stuffing);
                }
            }
            if (i >= bits.length() - 1 && eight.length() == 0) {
                break;
            }
        }
        return bytes;
    }

    /** Puts the bytes behind those that there are: how many they are. */
    int putInto(PacketHeads x) {
        return putInto(x, '0', '0');
    }

    int putInto(PacketHeads x, char stuffing, char filling) {
        List<Integer> bytes = bytes(stuffing, filling);
        for (int b : bytes) {
            x.put(b);
        }
        return bytes.size();
    }

    /** Holds what was written from a place on to these bits. */
    void checkWritten(String what, PacketHeads x, int place) {
        List<Integer> due = bytes('0', '0');
        Check.is(what + ": bytes", x.at(PacketHeads.NONE) - place, due.size());
        for (int i = 0; i < due.size() && place + i < x.at(PacketHeads.NONE); i++) {
            Check.is(what + ": byte " + i, x.at(place + i), due.get(i));
        }
    }
}
