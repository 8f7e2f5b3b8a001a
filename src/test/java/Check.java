/** Counts and prints what is not as due, as the tests under ../shared/tests do. */
final class Check {
    private static int wrong = 0;
    private static int done = 0;

    interface Call {
        void make();
    }

    private Check() {
    }

    static void is(String what, long got, long due) {
        done++;
        if (got != due) {
            wrong++;
            System.out.println(what + " answered " + got + ", due is " + due);
        }
    }

    /** Prints the first line that is another, as texts may be long. */
    static void same(String what, String got, String due) {
        done++;
        if (!got.equals(due)) {
            wrong++;
            String[] gotLines = got.split("\n");
            String[] dueLines = due.split("\n");
            int line = 0;
            while (line < gotLines.length && line < dueLines.length && gotLines[line].equals(dueLines[line])) {
                line++;
            }
            System.out.println(what + ": " + (line < gotLines.length ? gotLines[line] : "nothing") + ", due is "
                    + (line < dueLines.length ? dueLines[line] : "nothing"));
        }
    }

    /** The very class is due: the machine's own exceptions are of classes below some of the document's. */
    static void thrown(String what, Class<?> due, Call call) {
        Class<?> got = null;
        try {
            call.make();
        } catch (RuntimeException e) {
            got = e.getClass();
        }
        done++;
        if (got != due) {
            wrong++;
            System.out.println(what + " threw " + got + ", due is " + due);
        }
    }

    static void argument(String what, Call call) {
        thrown(what, IllegalArgumentException.class, call);
    }

    static void state(String what, Call call) {
        thrown(what, IllegalStateException.class, call);
    }

    static void unsupported(String what, Call call) {
        thrown(what, UnsupportedOperationException.class, call);
    }

    static void index(String what, Call call) {
        thrown(what, IndexOutOfBoundsException.class, call);
    }

    static void nothing(String what, Call call) {
        thrown(what, null, call);
    }

    static void end() {
        System.out.println(done - wrong + " of " + done + " answers are as due");
        if (wrong > 0) {
            System.exit(1);
        }
    }
}
