import java.nio.charset.StandardCharsets;

/** Compares answers with those that are due, and gives a quay its lists. */
final class Due {
    interface Call {
        long answer();
    }

    private static int wrong = 0;
    private static int looked = 0;

    private Due() {
    }

    static void is(String what, long got, long want) {
        looked++;
        if (got != want) {
            wrong++;
            System.out.println(what + " answered " + got + ", due is " + want);
        }
    }

    static void isDouble(String what, double got, double want) {
        looked++;
        if (got != want) {
            wrong++;
            System.out.println(what + " answered " + got + ", due is " + want);
        }
    }

    /** The exception has to be of this very class: the machine's own ones are below those of the document. */
    static void fails(String what, Class<? extends RuntimeException> want, Call call) {
        looked++;
        String got;
        try {
            got = "answered " + call.answer();
        } catch (RuntimeException e) {
            got = e.getClass() == want ? null : "threw " + e.getClass().getName();
        }
        if (got != null) {
            wrong++;
            System.out.println(what + " " + got + ", due is " + want.getSimpleName());
        }
    }

    static void argument(String what, Call call) {
        fails(what, IllegalArgumentException.class, call);
    }

    static void index(String what, Call call) {
        fails(what, IndexOutOfBoundsException.class, call);
    }

    static void state(String what, Call call) {
        fails(what, IllegalStateException.class, call);
    }

    /** As fails, and all that is told, the tape's length and the error's place are the same behind it. */
    static void refuses(SpiceQuay quay, String what, Class<? extends RuntimeException> want, Call call) {
        long digest = quay.digest();
        int place = quay.errorAt();
        fails(what, want, call);
        is(what + ": the digest behind it", quay.digest(), digest);
        is(what + ": errorAt behind it", quay.errorAt(), place);
    }

    static void refusesArgument(SpiceQuay quay, String what, Call call) {
        refuses(quay, what, IllegalArgumentException.class, call);
    }

    static void refusesIndex(SpiceQuay quay, String what, Call call) {
        refuses(quay, what, IndexOutOfBoundsException.class, call);
    }

    static void refusesState(SpiceQuay quay, String what, Call call) {
        refuses(quay, what, IllegalStateException.class, call);
    }

    static void end() {
        System.out.println(looked + " answers looked at, " + wrong + " not as due");
        if (wrong != 0) {
            System.exit(1);
        }
    }

    /** Puts these very bytes on an empty tape. */
    static void tape(SpiceQuay quay, byte[] bytes) {
        for (int at = 0; at < bytes.length; at += 20) {
            quay.feed(four(bytes, at), four(bytes, at + 4), four(bytes, at + 8),
                    four(bytes, at + 12), four(bytes, at + 16));
        }
        quay.trim(bytes.length);
    }

    static void tape(SpiceQuay quay, String text) {
        tape(quay, text.getBytes(StandardCharsets.ISO_8859_1));
    }

    private static int four(byte[] bytes, int at) {
        int four = 0;
        for (int i = at; i < at + 4; i++) {
            four = four << 8 | (i < bytes.length ? bytes[i] & 255 : 0);
        }
        return four;
    }

    static int teach(SpiceQuay quay, String text) {
        tape(quay, text);
        return quay.teach();
    }

    static SpiceQuay quay(String text) {
        SpiceQuay quay = new SpiceQuay();
        is("teach of " + text, teach(quay, text), 0);
        return quay;
    }

    /** A list that tells as many of each sort, and as many orders, as there may be. */
    static String fullList() {
        StringBuilder text = new StringBuilder();
        for (int i = 0; i < 4; i++) {
            text.append("spice s" + i + " loss " + 3 * i + ";guild g" + i + " fee " + 33 * i + " bias " + 5 * i + ";");
        }
        for (int i = 0; i < 6; i++) {
            text.append("merchant m" + i + " coins 9999 credit 9999;");
        }
        for (int i = 0; i < 10; i++) {
            text.append("lot l" + i + " of s" + i % 4 + " sacks 90 for m" + i % 6 + ";");
        }
        for (int i = 0; i < 8; i++) {
            text.append("weigh l" + i + " by g" + i % 4 + ";sell l" + i + " to m" + (i + 2) % 6 + " sum 50;"
                    + "pay m" + i % 6 + " to m" + (i + 1) % 6 + " sum 9;");
        }
        return text.toString();
    }

    /** A new quay answers this list with this error at this place. */
    static void error(String text, int error, int place) {
        SpiceQuay quay = new SpiceQuay();
        is("teach of <" + text + ">", teach(quay, text), error);
        is("errorAt of <" + text + ">", quay.errorAt(), place);
    }
}
