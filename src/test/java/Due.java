import java.nio.charset.StandardCharsets;

/** Compares answers with those that are due, and gives a quay its lists. */
final class Due {
    interface Call {
        long answer();
    }

    private static int wrong = 0;
    private static int looked = 0;

    private Due() {
    }

    static void is(String what, long got, long want) {
        looked++;
        if (got != want) {
            wrong++;
            System.out.println(what + " answered " + got + ", due is " + want);
        }
    }

    static void isDouble(String what, double got, double want) {
        looked++;
        if (got != want) {
            wrong++;
            System.out.println(what + " answered " + got + ", due is " + want);
        }
    }

    /** The exception has to be of this very class: the machine's own ones are below those of the document. */
    static void fails(String what, Class<? extends RuntimeException> want, Call call) {
        looked++;
        String got;
        try {
            got = "answered " + call.answer();
        } catch (RuntimeException e) {
            got = e.getClass() == want ? null : "threw " + e.getClass().getName();
        }
        if (got != null) {
            wrong++;
            System.out.println(what + " " + got + ", due is " + want.getSimpleName());
        }
    }

    static void argument(String what, Call call) {
        fails(what, IllegalArgumentException.class, call);
    }

    static void index(String what, Call call) {
        fails(what, IndexOutOfBoundsException.class, call);
    }

    static void state(String what, Call call) {
        fails(what, IllegalStateException.class, call);
    }

    static void end() {
        System.out.println(looked + " answers looked at, " + wrong + " not as due");
        if (wrong != 0) {
            System.exit(1);
        }
    }

    /** Puts these very bytes on an empty tape. */
    static void tape(SpiceQuay quay, byte[] bytes) {
        for (int at = 0; at < bytes.length; at += 20) {
            quay.feed(four(bytes, at), four(bytes, at + 4), four(bytes, at + 8),
                    four(bytes, at + 12), four(bytes, at + 16));
        }
        quay.trim(bytes.length);
    }

    static void tape(SpiceQuay quay, String text) {
        tape(quay, text.getBytes(StandardCharsets.ISO_8859_1));
    }

    private static int four(byte[] bytes, int at) {
        int four = 0;
        for (int i = at; i < at + 4; i++) {
            four = four << 8 | (i < bytes.length ? bytes[i] & 255 : 0);
        }
        return four;
    }

    static int teach(SpiceQuay quay, String text) {
        tape(quay, text);
        return quay.teach();
    }

    static SpiceQuay quay(String text) {
        SpiceQuay quay = new SpiceQuay();
        is("teach of " + text, teach(quay, text), 0);
        return quay;
    }

    /** A new quay answers this list with this error at this place. */
    static void error(String text, int error, int place) {
        SpiceQuay quay = new SpiceQuay();
        is("teach of <" + text + ">", teach(quay, text), error);
        is("errorAt of <" + text + ">", quay.errorAt(), place);
    }
}
