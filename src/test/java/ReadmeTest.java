import java.nio.charset.StandardCharsets;

/** The example of README.md answers what README.md says. */
public final class ReadmeTest {
    private static final String LIST =
            "spice pepper loss 5; guild west fee 3 bias 4;\n"
            + "merchant ana coins 40 credit 200; merchant bo coins 25 credit 90;\n"
            + "lot p1 of pepper sacks 3 for ana;\n"
            + "weigh p1 by west when chop p1 = 0 or age p1 > 4;\n"
            + "sell p1 to bo sum 20 when owns ana p1;\n"
            + "pay bo to ana sum coins bo / 2;\n";

    public static void main(String[] args) {
        SpiceQuay quay = new SpiceQuay();
        Due.is("the error", teach(quay, LIST), 0);
        Due.is("errorAt", quay.errorAt(), -1);
        Due.is("foresee of a day", quay.foresee(1, 0), 2);
        Due.is("pass of a day", quay.pass(1), 2);
        Due.is("the weight of the lot", quay.lot(0, 1), 296);
        Due.is("the merchant of the lot", quay.lot(0, 2), 1);
        Due.is("the weight of the chop", quay.lot(0, 4), 285);
        Due.is("coins of ana", quay.merchant(0, 0), 62);
        Due.is("what bo owes ana", quay.owes(1, 0), 32);
        Due.is("an error", teach(quay, "lot p2 of ginger sacks 3 for ana;"), 3);
        Due.is("its place", quay.errorAt(), 10);
        Due.is("what bo still owes ana", quay.owes(1, 0), 32);
        Due.end();
    }

    static int teach(SpiceQuay quay, String list) {
        byte[] bytes = list.getBytes(StandardCharsets.US_ASCII);
        int[] fours = new int[(bytes.length + 19) / 20 * 5];
        for (int i = 0; i < bytes.length; i++) {
            fours[i / 4] |= (bytes[i] & 255) << (24 - i % 4 * 8);
        }
        for (int i = 0; i < fours.length; i += 5) {
            quay.feed(fours[i], fours[i + 1], fours[i + 2], fours[i + 3], fours[i + 4]);
        }
        quay.trim(bytes.length);
        return quay.teach();
    }
}
