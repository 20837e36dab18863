/** The edges of promises 1, 2, 3 and 5, and of what section 1 says of the tape; each test bears its sentence, or belongs to the one ahead of it. */
public final class TapeEdgesTest {
    private static final String LINE = "spice s loss 5;";
    private static final int BLANKS = 0x20202020;
    private static final int ASKS = 0x3f3f3f3f;

    public static void main(String[] args) {
        atFirstEmpty();
        highestByteFirst();
        everyByteIsKept();
        numberOfBytes();
        notMoreThan2000();
        refusedFeedLeavesTheTape();
        firstBytesAreKept();
        trimFrom0ToAll();
        refusedTrimLeavesTheTape();
        feedGoesOnBehindTrim();
        emptyBehindTeach();
        fullTapeIsRead();
        endOfTheFullTape();
        errorAtWithoutTeach();
        errorAtOfTheLatest();
        Due.end();
    }

    private static SpiceQuay filled(int bytes, int four) {
        SpiceQuay quay = new SpiceQuay();
        for (int at = 0; at < bytes; at += 20) {
            quay.feed(four, four, four, four, four);
        }
        quay.trim(bytes);
        return quay;
    }

    /** "The tape is a row of at most 2000 bytes, at first empty"; a quay "without lots and merchants, on the day 0". */
    private static void atFirstEmpty() {
        SpiceQuay quay = new SpiceQuay();
        Due.is("bytes of a new tape", quay.count(13), 0);
        Due.is("an empty tape is a list", quay.teach(), 0);
        int[] counts = {0, 3, 0, 0, 0, 0, 0, 0, 0, 0, 0, 0, 0, 0};
        for (int what = 0; what <= 13; what++) {
            Due.is("count " + what + " behind the empty list", quay.count(what), counts[what]);
        }
    }

    /** "Appends twenty bytes to the tape: the four bytes of each number, the highest one first." */
    private static void highestByteFirst() {
        for (int b : new int[] {0, '?', 127, 128, 255}) {
            for (int place = 0; place < 20; place++) {
                int[] five = {BLANKS, BLANKS, BLANKS, BLANKS, BLANKS};
                int shift = 24 - 8 * (place % 4);
                five[place / 4] = BLANKS & ~(255 << shift) | b << shift;
                SpiceQuay quay = new SpiceQuay();
                quay.feed(five[0], five[1], five[2], five[3], five[4]);
                Due.is("byte " + b + " at " + place, quay.teach(), 1);
                Due.is("its place", quay.errorAt(), place);
            }
        }
    }

    /** The same of a second feed, and of a number that is negative as a whole. */
    private static void everyByteIsKept() {
        SpiceQuay quay = new SpiceQuay();
        quay.feed(0x73706963, 0x65207320, 0x6c6f7373, 0x2037203b, 0x0a0a2020);
        quay.feed(0x6775696c, 0x64206720, 0x66656520, 0x39382062, 0x69617320);
        quay.feed(0x31393b20, BLANKS, BLANKS, BLANKS, 0x20202080);
        Due.is("the last byte is none of a list", quay.teach(), 1);
        Due.is("its place", quay.errorAt(), 59);
        quay.feed(0x73706963, 0x65207320, 0x6c6f7373, 0x2037203b, 0x0a0a2020);
        quay.feed(0x6775696c, 0x64206720, 0x66656520, 0x39382062, 0x69617320);
        quay.feed(0x31393b20, BLANKS, BLANKS, BLANKS, BLANKS);
        Due.is("all are of a list", quay.teach(), 0);
        Due.is("fee", quay.guild(0, 0), 98);
        Due.is("bias", quay.guild(0, 1), 19);
    }

    /** "Returns the number of bytes of the tape." */
    private static void numberOfBytes() {
        SpiceQuay quay = new SpiceQuay();
        for (int i = 1; i <= 100; i++) {
            Due.is("feed " + i, quay.feed(Integer.MIN_VALUE, Integer.MAX_VALUE, -1, 0, i), 20 * i);
            Due.is("bytes", quay.count(13), 20 * i);
        }
    }

    /** "Throws IllegalStateException if there would be more than 2000": 1980 and 20 are not more, 1981 and 20 are. */
    private static void notMoreThan2000() {
        for (int bytes = 1979; bytes <= 2000; bytes++) {
            SpiceQuay quay = filled(bytes, BLANKS);
            if (bytes <= 1980) {
                Due.is("feed at " + bytes, quay.feed(0, 0, 0, 0, 0), bytes + 20);
            } else {
                Due.refusesState(quay, "feed at " + bytes, () -> quay.feed(0, 0, 0, 0, 0));
                Due.is("bytes", quay.count(13), bytes);
            }
        }
    }

    /** "A method that throws an exception changes nothing": none of the bytes is put on the tape, or over others. */
    private static void refusedFeedLeavesTheTape() {
        SpiceQuay quay = new SpiceQuay();
        Due.tape(quay, " ".repeat(1985) + LINE);
        Due.refusesState(quay, "feed at 2000", () -> quay.feed(ASKS, ASKS, ASKS, ASKS, ASKS));
        Due.is("all blanks and a line", quay.teach(), 0);
        Due.is("spices", quay.count(2), 1);

        Due.tape(quay, LINE + " ".repeat(1966));
        Due.refusesState(quay, "feed at 1981", () -> quay.feed(ASKS, ASKS, ASKS, ASKS, ASKS));
        Due.is("no part is put", quay.teach(), 0);
        Due.is("loss stays told", quay.count(2), 1);
    }

    /** "Shortens the tape to its first bytes." */
    private static void firstBytesAreKept() {
        for (int n = 0; n <= 20; n++) {
            SpiceQuay quay = new SpiceQuay();
            Due.tape(quay, LINE + "?????");
            Due.is("trim(" + n + ")", quay.trim(n), n);
            Due.is("bytes", quay.count(13), n);
            Due.is("teach of " + n, quay.teach(), n == 0 || n == 15 ? 0 : 1);
            // cut within the blank behind a word, the end is one byte behind that
            Due.is("error of " + n, quay.errorAt(), n == 0 || n == 15 ? -1 : n < 5 ? 0 : n < 9 ? n : n < 12 ? 8
                    : n < 15 ? n : 15);
        }
    }

    /** "Throws IllegalArgumentException if n is not 0 to the number of bytes of the tape", also of the empty and the full one. */
    private static void trimFrom0ToAll() {
        for (int bytes : new int[] {0, 1, 19, 20, 1999, 2000}) {
            for (int n : new int[] {-1, bytes + 1, bytes + 20, Integer.MAX_VALUE, Integer.MIN_VALUE}) {
                SpiceQuay quay = filled(bytes, BLANKS);
                Due.refusesArgument(quay, "trim(" + n + ") of " + bytes, () -> quay.trim(n));
                Due.is("bytes", quay.count(13), bytes);
            }
            SpiceQuay quay = filled(bytes, BLANKS);
            Due.is("trim to all of " + bytes, quay.trim(bytes), bytes);
            Due.is("bytes", quay.count(13), bytes);
            Due.is("trim to nothing", quay.trim(0), 0);
            Due.is("no bytes", quay.count(13), 0);
            Due.refusesArgument(quay, "what is gone", () -> quay.trim(1));
        }
    }

    private static void refusedTrimLeavesTheTape() {
        SpiceQuay quay = new SpiceQuay();
        Due.tape(quay, LINE + "guild");
        Due.refusesArgument(quay, "trim(21)", () -> quay.trim(21));
        Due.refusesArgument(quay, "trim(-1)", () -> quay.trim(-1));
        Due.is("all is still there", quay.teach(), 1);
        Due.is("the end of all", quay.errorAt(), 20);
    }

    private static void feedGoesOnBehindTrim() {
        SpiceQuay quay = new SpiceQuay();
        Due.tape(quay, "spice s loss 5???");
        Due.is("trim", quay.trim(14), 14);
        Due.is("feed behind it", quay.feed(0x3b202020, BLANKS, BLANKS, BLANKS, 0x2020203f), 34);
        Due.is("one list of both", quay.trim(33), 33);
        Due.is("teach", quay.teach(), 0);
        Due.is("spices", quay.count(2), 1);
    }

    /** "teach reads it as a list, and it is empty behind it": what comes then stands at 0 again. */
    private static void emptyBehindTeach() {
        for (String text : new String[] {"", LINE, LINE + LINE, "?", " ".repeat(2000)}) {
            SpiceQuay quay = new SpiceQuay();
            Due.teach(quay, text);
            Due.is("bytes", quay.count(13), 0);
            Due.argument("nothing to keep", () -> quay.trim(1));
            Due.is("feed", quay.feed(0x203f2020, BLANKS, BLANKS, BLANKS, BLANKS), 20);
            Due.is("teach", quay.teach(), 1);
            Due.is("errorAt", quay.errorAt(), 1);
            Due.is("nothing of it comes back", quay.teach(), 0);
        }
    }

    /** Lists of 2000 bytes, to the last one. */
    private static void fullTapeIsRead() {
        Due.error(" ".repeat(2000), 0, -1);
        Due.error("\n".repeat(2000), 0, -1);
        Due.error(LINE + " ".repeat(1985), 0, -1);
        Due.error(" ".repeat(1985) + LINE, 0, -1);
        Due.error("spice" + " ".repeat(1986) + "s loss 5;", 0, -1);
        Due.error("spice" + "\n".repeat(1990) + "s los", 1, 1997);
        Due.error(" ".repeat(1984) + "spice s loss 10;", 5, 1997);
        Due.error(" ".repeat(1984) + "spice s loss 5;;", 1, 1999);
        Due.error(" ".repeat(1999) + "?", 1, 1999);
        Due.error(" ".repeat(1999) + "s", 1, 1999);
    }

    /** "the end of the tape (at its length)" */
    private static void endOfTheFullTape() {
        Due.error(" ".repeat(1995) + "spice", 1, 2000);
        Due.error(" ".repeat(1994) + "spice\n", 1, 2000);
        Due.error(" ".repeat(1986) + "spice s loss 5", 1, 2000);
        Due.error(" ".repeat(1983) + "spice abcdefghijk", 1, 1989);
        Due.error(" ".repeat(1984) + "spice abcdefghij", 1, 2000);
        Due.error(" ".repeat(1981) + "spice s loss 123456", 1, 2000);
        Due.error(" ".repeat(1980) + "spice s loss 1234567", 1, 1993);
    }

    /** "-1 if it had none, or there was none" */
    private static void errorAtWithoutTeach() {
        SpiceQuay quay = new SpiceQuay();
        Due.is("a new object", quay.errorAt(), -1);
        quay.feed(ASKS, ASKS, ASKS, ASKS, ASKS);
        Due.is("not read yet", quay.errorAt(), -1);
        quay.trim(3);
        Due.is("not read yet, but trimmed", quay.errorAt(), -1);
    }

    /** "the position of the error of the latest teach()": each sort of error, and 0 is a position too. */
    private static void errorAtOfTheLatest() {
        SpiceQuay quay = new SpiceQuay();
        String[] texts = {"?", LINE, " ;", LINE + "spice s", LINE + LINE, "", "lot l of s sacks 5 for m;", "\n",
            "spice s loss 10;", "weigh l by g;", LINE};
        int[] places = {0, -1, 1, 22, 21, -1, 9, -1, 13, 6, -1};
        for (int i = 0; i < texts.length; i++) {
            Due.teach(quay, texts[i]);
            Due.is("errorAt of <" + texts[i] + ">", quay.errorAt(), places[i]);
            quay.feed(ASKS, ASKS, ASKS, ASKS, ASKS);
            quay.pass(1);
            Due.is("errorAt stays", quay.errorAt(), places[i]);
            quay.trim(0);
        }
    }
}
