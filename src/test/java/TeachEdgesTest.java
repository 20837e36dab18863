/** The edges of promise 4: what another list takes the place of, and what stays; each test bears its sentence, or belongs to the one ahead of it. */
public final class TeachEdgesTest {
    private static final String QUAY = "spice s loss 5;guild g fee 2 bias 10;merchant m coins 90 credit 80;"
            + "merchant n coins 9 credit 800;lot l of s sacks 3 for m;"
            + "weigh l by g when day < 2;sell l to n sum 10 when day = 1;pay n to m sum 2;";
    /** A list with each error, in this order, that would change all if it were taken. */
    private static final String[] WRONG = {
        "spice t loss 9;merchant z coins 1 credit 1;spice",
        "spice t loss 9;merchant z coins 1 credit 1;spice t loss 9;",
        "spice t loss 9;merchant z coins 1 credit 1;lot k of t sacks 1 for z;sell k to y sum 7 when 1 = 2;",
        "spice a loss 1;spice b loss 2;spice c loss 3;spice d loss 4;spice e loss 5;",
        "spice t loss 9;merchant z coins 1 credit 1;lot k of t sacks 1 for z;pay z to z sum 5;merchant y coins 10000 credit 1;",
    };

    public static void main(String[] args) {
        answers();
        emptyListInThePlaceOfAll();
        fullListInThePlaceOfNone();
        otherListInThePlace();
        countsBeginWith0();
        dayAndDampStay();
        allStaysWithAnError();
        nothingStaysOfAWrongList();
        againAndAgain();
        fullListsAgainAndAgain();
        Due.end();
    }

    /** "Returns 0, or the error, 1 to 5." */
    private static void answers() {
        SpiceQuay quay = new SpiceQuay();
        for (int error = 1; error <= 5; error++) {
            Due.is("error " + error, Due.teach(quay, WRONG[error - 1]), error);
            Due.is("none", Due.teach(quay, QUAY), 0);
            Due.is("errorAt", quay.errorAt(), -1);
        }
    }

    /** "Reads the tape as a list, in the place of all that was told before" */
    private static void emptyListInThePlaceOfAll() {
        SpiceQuay quay = Due.quay(Due.fullList());
        quay.lend(0, 1, 9);
        quay.pass(3);
        Due.is("the empty list", quay.teach(), 0);
        for (int what = 0; what <= 13; what++) {
            Due.is("count " + what, quay.count(what), what == 0 || what == 1 ? 3 : 0);
        }
        Due.refusesIndex(quay, "lot 0", () -> quay.lot(0, 0));
        Due.refusesIndex(quay, "merchant 0", () -> quay.merchant(0, 0));
        Due.refusesIndex(quay, "guild 0", () -> quay.guild(0, 0));
        Due.refusesIndex(quay, "order 0", () -> quay.order(0, 0));
        Due.refusesIndex(quay, "owes", () -> quay.owes(0, 0));
        Due.refusesIndex(quay, "chain", () -> quay.chain(0, 0));
        Due.refusesIndex(quay, "ring", () -> quay.ring(0));
        Due.refusesIndex(quay, "lend", () -> quay.lend(0, 1, 1));
        Due.refusesIndex(quay, "offset", () -> quay.offset(0, 1));
        Due.refusesIndex(quay, "dry", () -> quay.dry(0));
        Due.refusesIndex(quay, "until", () -> quay.until(0));
        Due.is("no orders", quay.pass(120), 0);
        Due.is("no one is richest", quay.richest(90), -1);
        Due.is("nothing is lost", quay.costs(90, 9), 0);
        Due.isDouble("mean", quay.mean(), 0);
    }

    private static void fullListInThePlaceOfNone() {
        SpiceQuay quay = Due.quay("");
        Due.is("the full list", Due.teach(quay, Due.fullList()), 0);
        int[] counts = {0, 3, 4, 4, 6, 10, 24, 90000, 0, 59994, 0, 0, 0, 0};
        for (int what = 0; what <= 13; what++) {
            Due.is("count " + what, quay.count(what), counts[what]);
        }
    }

    /** What one list told is nowhere behind another one that tells less, and not when that many are told again. */
    private static void otherListInThePlace() {
        SpiceQuay quay = Due.quay(Due.fullList());
        quay.lend(5, 4, 900);
        quay.lend(0, 5, 90);
        quay.pass(7);
        Due.is("a smaller one", Due.teach(quay, QUAY), 0);
        int[] counts = {7, 3, 1, 1, 2, 1, 3, 300, 0, 99, 0, 0, 0, 0};
        for (int what = 0; what <= 13; what++) {
            Due.is("count " + what, quay.count(what), counts[what]);
        }
        SpiceQuay first = new SpiceQuay();
        first.pass(7);
        Due.teach(first, QUAY);
        Due.is("as if the smaller one were the first one", quay.digest(), first.digest());
        Due.refusesIndex(quay, "lot 1", () -> quay.lot(1, 0));
        Due.refusesIndex(quay, "merchant 2", () -> quay.merchant(2, 0));
        Due.refusesIndex(quay, "guild 1", () -> quay.guild(1, 0));
        Due.refusesIndex(quay, "order 3", () -> quay.order(3, 0));
        Due.is("the full one again", Due.teach(quay, Due.fullList()), 0);
        SpiceQuay other = new SpiceQuay();
        other.pass(7);
        Due.teach(other, Due.fullList());
        Due.is("as if it were the first one", quay.digest(), other.digest());
        Due.is("no debts are left", quay.merchant(4, 2) + quay.merchant(5, 2) + quay.count(8), 0);
        quay.pass(9);
        other.pass(9);
        Due.is("later too", quay.digest(), other.digest());
    }

    /** "what was sold, weighed and paid in all begins with 0" */
    private static void countsBeginWith0() {
        SpiceQuay quay = Due.quay(QUAY);
        quay.lend(0, 1, 30);
        Due.is("orders", quay.pass(2), 2 + 1 + 2);
        Due.is("sold", quay.count(10), 1);
        Due.is("weighed", quay.count(11), 2);
        Due.is("paid", quay.count(12), 2);
        Due.is("the same list", Due.teach(quay, QUAY), 0);
        Due.is("sold", quay.count(10), 0);
        Due.is("weighed", quay.count(11), 0);
        Due.is("paid", quay.count(12), 0);
        for (int order = 0; order < 3; order++) {
            Due.is("times of order " + order, quay.order(order, 4), 0);
        }
        Due.is("earned", quay.guild(0, 2), 0);
        Due.is("owed", quay.count(8), 0);
        Due.is("chop", quay.lot(0, 3), -1);
        Due.is("owner", quay.lot(0, 2), 0);
        Due.is("weight", quay.lot(0, 1), 300);
        Due.is("coins", quay.merchant(0, 0), 90);
    }

    /** "the day and the damp stay" */
    private static void dayAndDampStay() {
        for (String text : new String[] {"", QUAY, "?", "spice s loss 10;"}) {
            SpiceQuay quay = new SpiceQuay();
            Due.teach(quay, text);
            Due.is("the first day", quay.count(0), 0);
            Due.is("the first damp", quay.count(1), 3);
            quay.setDamp(9);
            quay.pass(11);
            Due.teach(quay, text);
            Due.is("day", quay.count(0), 11);
            Due.is("damp", quay.count(1), 9);
            quay.setDamp(0);
            Due.teach(quay, text);
            Due.is("no damp", quay.count(1), 0);
        }
    }

    /** "If it has an error, all stays (but the tape is empty).": as in a quay that was not given the wrong list. */
    private static void allStaysWithAnError() {
        for (int error = 1; error <= 5; error++) {
            SpiceQuay quay = Due.quay(QUAY);
            SpiceQuay twin = Due.quay(QUAY);
            for (int day = 0; day < 20; day++) {
                Due.is("error", Due.teach(quay, WRONG[error - 1]), error);
                Due.is("tape", quay.count(13), 0);
                Due.is("day " + day + " with error " + error, quay.digest(), twin.digest());
                if (day == 1) {
                    quay.lend(0, 1, 30);
                    twin.lend(0, 1, 30);
                }
                Due.is("orders", quay.pass(1), twin.pass(1));
            }
            Due.is("sold once", quay.count(10), 1);
        }
    }

    private static void nothingStaysOfAWrongList() {
        for (int error = 1; error <= 5; error++) {
            SpiceQuay quay = new SpiceQuay();
            Due.is("error", Due.teach(quay, WRONG[error - 1]), error);
            for (int what = 2; what <= 13; what++) {
                Due.is("count " + what + " behind error " + error, quay.count(what), 0);
            }
            // its names are not told either
            Due.is("name of a spice", Due.teach(quay, "merchant m coins 1 credit 1;lot l of t sacks 1 for m;"), 3);
            Due.is("its sort is free", Due.teach(quay, "spice t loss 1;merchant z coins 1 credit 1;"), 0);
        }
    }

    /** Names, numbers of lots, sums and tests of one list are none of the next one. */
    private static void againAndAgain() {
        SpiceQuay quay = new SpiceQuay();
        for (int i = 0; i < 30; i++) {
            String name = "x" + i % 3;
            String text = "spice " + name + " loss " + i % 10 + ";merchant " + name + " coins " + i + " credit 1;lot " + name + " of "
                    + name + " sacks 1 for " + name + ";guild " + name + " fee " + i + " bias 0;weigh " + name + " by " + name
                    + " when coins " + name + " = " + i + " and weight " + name + " + 0 * 1 * 2 * 3 * 4 * 5 * 6 * 7 * 8 > 0;";
            Due.is("list " + i, Due.teach(quay, text), 0);
            Due.is("its test holds", quay.order(0, 3), 1);
            Due.is("its fee", quay.guild(0, 0), i);
        }
    }

    private static void fullListsAgainAndAgain() {
        for (int lists = 1; lists <= 6; lists++) {
            SpiceQuay quay = new SpiceQuay();
            SpiceQuay twin = Due.quay(Due.fullList());
            for (int i = 0; i < lists; i++) {
                Due.is("list " + i, Due.teach(quay, Due.fullList()), 0);
            }
            Due.is("orders", quay.pass(20), twin.pass(20));
            Due.is("digest behind " + lists, quay.digest(), twin.digest());
        }
    }
}
