/**
 * Calls that are refused: which exception they throw, and that they change nothing. Of two objects made alike one
 * is refused the call; whatever is asked of them later, both answer alike.
 */
final class Refused {
    interface Make {
        PacketHeads make();
    }

    interface Use {
        void on(PacketHeads x);
    }

    private Refused() {
    }

    static void argument(String what, Make make, Use call) {
        hold(what, IllegalArgumentException.class, make, call);
    }

    static void state(String what, Make make, Use call) {
        hold(what, IllegalStateException.class, make, call);
    }

    static void unsupported(String what, Make make, Use call) {
        hold(what, UnsupportedOperationException.class, make, call);
    }

    static void index(String what, Make make, Use call) {
        hold(what, IndexOutOfBoundsException.class, make, call);
    }

    private static void hold(String what, Class<?> due, Make make, Use call) {
        for (Probe.Way way : Probe.Way.values()) {
            PacketHeads plain = make.make();
            PacketHeads refused = make.make();
            Check.thrown(what, due, () -> call.on(refused));
            Check.same(what + ", and is to change nothing", Probe.answers(refused, way), Probe.answers(plain, way));
        }
    }
}
