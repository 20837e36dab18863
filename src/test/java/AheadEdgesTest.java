import java.math.BigInteger;

/** The edges of promises 19 to 24, what would be; each test bears its sentence, or belongs to the one ahead of it. */
public final class AheadEdgesTest {
    /** Orders that need what was weighed, lent and sold some days ahead of them. */
    private static final String QUAY = "spice s loss 5;guild g fee 2 bias 10;merchant m coins 400 credit 500;"
            + "merchant n coins 300 credit 500;merchant o coins 9 credit 90;lot l of s sacks 4 for m;lot k of s sacks 2 for n;"
            + "weigh l by g when day = 0;weigh k by g when day = 2;sell k to m sum 7 when day = 2;sell l to n sum 20 when day = 3;"
            + "sell k to o sum 30 when day = 7;sell l to m sum 3 when day = 5;pay n to m sum 3;weigh l by g when day = 100;";

    public static void main(String[] args) {
        daysForeseen();
        whatIsForeseen();
        foreseeFirstNamed();
        foreseenAsItComes();
        foreseenWithoutChop();
        foreseenOfNothing();
        costsOfEachDamp();
        daysOfCosts();
        dampsOfCosts();
        costsAsTheyCome();
        costsOfNothing();
        daysOfRichest();
        richestWithTheSmallestNumber();
        richestByDebts();
        richestOfNone();
        richestByOrders();
        untilNow();
        untilMoreThanTheCredit();
        untilAtMost150();
        untilByOrders();
        untilNoSuchMerchant();
        meanOfNone();
        meanIsNotCut();
        digestOfNothing();
        digestWrapsAround();
        Due.end();
    }

    /** On day 3: sold once, weighed twice and paid three times; both lots bear a chop, and n owes m 1. */
    private static SpiceQuay onDay3() {
        SpiceQuay quay = Due.quay(QUAY);
        quay.lend(0, 1, 10);
        quay.setDamp(4);
        Due.is("orders", quay.pass(3), 6);
        return quay;
    }

    /** "Throws IllegalArgumentException if days is not 1 to 120" */
    private static void daysForeseen() {
        SpiceQuay quay = onDay3();
        for (int days : new int[] {0, -1, 121, 150, Integer.MIN_VALUE, Integer.MAX_VALUE}) {
            Due.refusesArgument(quay, "foresee " + days, () -> quay.foresee(days, 0));
            Due.refusesArgument(quay, "foresee " + days + " 12", () -> quay.foresee(days, 12));
        }
        Due.is("the fewest days", quay.foresee(1, 11), 2);
        Due.is("the most days", quay.foresee(120, 11), 3);
    }

    /** "Throws IndexOutOfBoundsException if what is none of these": 0 and 7 to 12 are. */
    private static void whatIsForeseen() {
        SpiceQuay quay = onDay3();
        for (int what = -2; what <= 15; what++) {
            int each = what;
            if (what == 0 || what >= 7 && what <= 12) {
                Due.is("foresee " + what, quay.foresee(120, what) > 0 ? 1 : 0, 1);
            } else {
                Due.refusesIndex(quay, "foresee " + what, () -> quay.foresee(120, each));
            }
        }
        Due.refusesIndex(quay, "foresee the least", () -> quay.foresee(1, Integer.MIN_VALUE));
        Due.refusesIndex(quay, "foresee the most", () -> quay.foresee(1, Integer.MAX_VALUE));
    }

    /** "If several exceptions apply, the one that is named first is thrown." */
    private static void foreseeFirstNamed() {
        SpiceQuay quay = onDay3();
        for (int days : new int[] {0, -1, 121, Integer.MIN_VALUE, Integer.MAX_VALUE}) {
            for (int what : new int[] {-1, 1, 6, 13, Integer.MIN_VALUE, Integer.MAX_VALUE}) {
                Due.refusesArgument(quay, "foresee " + days + " " + what, () -> quay.foresee(days, what));
            }
        }
    }

    /** "0 orders that are carried out in them, 7 to 12 as count() has it then"; "nothing is changed" */
    private static void foreseenAsItComes() {
        for (int days : new int[] {1, 2, 3, 4, 5, 6, 7, 8, 96, 97, 98, 119, 120}) {
            SpiceQuay quay = onDay3();
            SpiceQuay then = onDay3();
            long digest = quay.digest();
            int carriedOut = then.pass(days);
            for (int turn = 0; turn < 2; turn++) {
                Due.is("orders in " + days, quay.foresee(days, 0), carriedOut);
                for (int what = 7; what <= 12; what++) {
                    Due.is("foresee " + days + " " + what, quay.foresee(days, what), then.count(what));
                }
            }
            Due.is("nothing is changed", quay.digest(), digest);
            Due.is("it comes so", quay.pass(days), carriedOut);
            Due.is("and all else with it", quay.digest(), then.digest());
        }
        // l is sold on days 3 and 5 by its chop of day 0, and k on day 7 by its chop of day 2
        SpiceQuay quay = onDay3();
        int[] sold = {2, 2, 3, 3, 4, 4};
        for (int days = 1; days <= 6; days++) {
            Due.is("sold behind " + days, quay.foresee(days, 10), sold[days - 1]);
        }
    }

    /** A lot without a chop can't be sold in the days ahead either, be it a new or a dried one. */
    private static void foreseenWithoutChop() {
        SpiceQuay quay = Due.quay("spice s loss 0;guild g fee 0 bias 0;merchant m coins 0 credit 0;merchant n coins 9 credit 0;"
                + "lot l of s sacks 1 for m;weigh l by g when day = 2;sell l to n sum 1 when day < 2 or day = 4;");
        Due.is("not on days 0 to 3", quay.foresee(4, 10), 0);
        Due.is("on day 4", quay.foresee(5, 10), 1);
        quay.pass(3);
        Due.is("on day 4, by the chop of day 2", quay.foresee(2, 10), 1);
        quay.dry(0);
        Due.is("not without it", quay.foresee(2, 10), 0);
        Due.is("nobody is richer", quay.richest(2), 1);
    }

    private static void foreseenOfNothing() {
        SpiceQuay quay = new SpiceQuay();
        for (int what : new int[] {0, 7, 8, 9, 10, 11, 12}) {
            Due.is("foresee 1 " + what, quay.foresee(1, what), 0);
            Due.is("foresee 120 " + what, quay.foresee(120, what), 0);
        }
        Due.refusesArgument(quay, "foresee 121", () -> quay.foresee(121, 0));
        Due.refusesIndex(quay, "foresee 1 1", () -> quay.foresee(1, 1));
    }

    /** "how much less all lots would weigh in all", with the "damp from now on" */
    private static void costsOfEachDamp() {
        SpiceQuay quay = Due.quay("spice s loss 9;merchant m coins 0 credit 0;lot l of s sacks 90 for m;lot k of s sacks 1 for m;");
        // of 9000 and of 100, each cut
        int[] losses = {0, 81, 162 + 1, 243 + 2, 324 + 3, 405 + 4, 486 + 5, 567 + 6, 648 + 7, 729 + 8};
        for (int damp = 0; damp <= 9; damp++) {
            Due.is("costs of a day with " + damp, quay.costs(1, damp), losses[damp]);
        }
        Due.is("damp stays", quay.count(1), 3);
    }

    /** "Throws IllegalArgumentException if days is not 1 to 90, or damp is not 0 to 9" */
    private static void daysOfCosts() {
        SpiceQuay quay = onDay3();
        for (int days : new int[] {0, -1, 91, 120, Integer.MIN_VALUE, Integer.MAX_VALUE}) {
            Due.refusesArgument(quay, "costs of " + days, () -> quay.costs(days, 5));
            Due.refusesArgument(quay, "costs of " + days + " and of damp 10", () -> quay.costs(days, 10));
        }
        Due.is("the fewest days cost less", quay.costs(1, 9) < quay.costs(90, 9) ? 1 : 0, 1);
    }

    private static void dampsOfCosts() {
        SpiceQuay quay = onDay3();
        for (int damp : new int[] {-1, 10, 11, Integer.MIN_VALUE, Integer.MAX_VALUE}) {
            Due.refusesArgument(quay, "costs by " + damp, () -> quay.costs(1, damp));
            Due.refusesArgument(quay, "costs by " + damp + " in 90", () -> quay.costs(90, damp));
        }
        Due.is("without damp", quay.costs(90, 0), 0);
    }

    /** "behind so many days than now (nothing is changed)" */
    private static void costsAsTheyCome() {
        for (int days : new int[] {1, 2, 30, 89, 90}) {
            for (int damp : new int[] {0, 1, 3, 8, 9}) {
                SpiceQuay quay = onDay3();
                long digest = quay.digest();
                int before = quay.count(7);
                int costs = quay.costs(days, damp);
                Due.is("nothing is changed", quay.digest(), digest);
                Due.is("again", quay.costs(days, damp), costs);
                quay.setDamp(damp);
                quay.pass(days);
                Due.is("costs of " + days + " with " + damp, before - quay.count(7), costs);
            }
        }
    }

    private static void costsOfNothing() {
        Due.is("without lots", new SpiceQuay().costs(90, 9), 0);
        Due.is("without loss", Due.quay("spice s loss 0;merchant m coins 0 credit 0;lot l of s sacks 90 for m;").costs(90, 9), 0);
        SpiceQuay quay = Due.quay("spice s loss 9;merchant m coins 0 credit 0;lot l of s sacks 1 for m;");
        for (int i = 0; i < 30; i++) {
            quay.dry(0);
        }
        Due.is("of a weight of 9", quay.costs(90, 9), 0);
        SpiceQuay empty = new SpiceQuay();
        Due.refusesArgument(empty, "without lots too", () -> empty.costs(91, 9));
    }

    /** "Throws IllegalArgumentException if days is not 1 to 90" */
    private static void daysOfRichest() {
        SpiceQuay quay = onDay3();
        for (int days : new int[] {0, -1, 91, 120, Integer.MIN_VALUE, Integer.MAX_VALUE}) {
            Due.refusesArgument(quay, "richest " + days, () -> quay.richest(days));
        }
        Due.is("the fewest days", quay.richest(1), 0);
        Due.is("the most days", quay.richest(90), 0);
    }

    /** "of several the one with the smallest number" */
    private static void richestWithTheSmallestNumber() {
        for (int first = 0; first < 6; first++) {
            StringBuilder text = new StringBuilder();
            for (int i = 0; i < 6; i++) {
                text.append("merchant m" + i + " coins " + (i >= first ? 7 : 6) + " credit 0;");
            }
            Due.is("the first one of those with 7", Due.quay(text.toString()).richest(1), first);
            Due.is("nobody has anything", Due.quay(text.toString().replace("7", "0").replace("coins 6", "coins 0")).richest(90), 0);
        }
        for (int one = 0; one < 6; one++) {
            StringBuilder text = new StringBuilder();
            for (int i = 0; i < 6; i++) {
                text.append("merchant m" + i + " coins " + (i == one ? 9999 : 9998) + " credit 0;");
            }
            Due.is("the only one with 9999", Due.quay(text.toString()).richest(90), one);
        }
    }

    /** "the most coins, and all that this one is owed, less the debts" */
    private static void richestByDebts() {
        String text = "merchant a coins 10 credit 99;merchant b coins 10 credit 99;merchant c coins 10 credit 99;";
        for (int lender = 0; lender < 3; lender++) {
            for (int other = 0; other < 3; other++) {
                if (lender != other) {
                    SpiceQuay quay = Due.quay(text);
                    quay.lend(lender, other, 5);
                    Due.is("all have the same still", quay.richest(6), 0);
                    // 5 are 6 then: the lender has 11, the other one 9
                    Due.is("the one who lent", quay.richest(7), lender);
                    Due.is("behind 90 days", quay.richest(90), lender);
                }
            }
        }
    }

    /** "-1 without merchants" */
    private static void richestOfNone() {
        Due.is("none", new SpiceQuay().richest(1), -1);
        Due.is("none by the empty list", Due.quay("spice s loss 5;guild g fee 1 bias 1;").richest(90), -1);
        SpiceQuay quay = new SpiceQuay();
        Due.refusesArgument(quay, "0 days without merchants", () -> quay.richest(0));
        Due.refusesArgument(quay, "91 days without merchants", () -> quay.richest(91));
    }

    private static void richestByOrders() {
        SpiceQuay quay = Due.quay("spice s loss 0;guild g fee 1 bias 0;merchant m coins 80 credit 0;merchant n coins 39 credit 0;"
                + "merchant o coins 1 credit 0;lot l of s sacks 1 for o;weigh l by g when day = 88;sell l to m sum 80 when day = 89;");
        long digest = quay.digest();
        Due.is("ahead of the sale", quay.richest(89), 0);
        Due.is("behind the sale", quay.richest(90), 2);
        Due.is("nothing is changed", quay.digest(), digest);
    }

    /** "0 if now"; debts as much as the credit are not more. */
    private static void untilNow() {
        int[][] creditAndDays = {{19, 7}, {20, 14}, {21, 14}, {22, 21}, {23, 21}, {24, 28}};
        for (int[] each : creditAndDays) {
            // 19, 20, 22, 24, 26
            SpiceQuay quay = Due.quay("merchant m coins 99 credit 0;merchant n coins 0 credit " + each[0] + ";");
            quay.lend(0, 1, 19);
            for (int day = 0; day <= each[1] + 1; day++) {
                Due.is("credit " + each[0] + " on day " + day, quay.until(1), Math.max(0, each[1] - day));
                quay.pass(1);
            }
            Due.is("nobody else", quay.until(0), -1);
        }
    }

    private static void untilMoreThanTheCredit() {
        SpiceQuay quay = Due.quay("merchant m coins 99 credit 99;merchant n coins 99 credit 9999;merchant o coins 0 credit 0;");
        quay.lend(0, 1, 1);
        quay.lend(1, 0, 99);
        long digest = quay.digest();
        Due.is("99 are more behind a week", quay.until(0), 7);
        Due.is("1 is not more within 150 days", quay.until(1), -1);
        Due.is("nothing is never more", quay.until(2), -1);
        Due.is("nothing is changed", quay.digest(), digest);
        quay.pass(7);
        Due.is("now", quay.until(0), 0);
        quay.offset(0, 1);
        Due.is("104 less 2", quay.owes(0, 1), 102);
        Due.is("now, with what is left", quay.until(0), 0);
    }

    /** "at most 150; -1 if not by then" */
    private static void untilAtMost150() {
        int[] grown = new int[23];
        grown[0] = 1;
        for (int week = 1; week <= 22; week++) {
            grown[week] = grown[week - 1] + grown[week - 1] / 20 + 1;
        }
        // with this credit it is more from day 7 * 22 on
        for (int credit : new int[] {grown[21], grown[22] - 1}) {
            for (int day = 0; day <= 8; day++) {
                SpiceQuay quay = Due.quay("merchant m coins 9 credit 0;merchant n coins 0 credit " + credit + ";");
                quay.lend(0, 1, 1);
                if (day > 0) {
                    quay.pass(day);
                }
                Due.is("until from day " + day, quay.until(1), day < 4 ? -1 : 154 - day);
            }
        }
        SpiceQuay quay = Due.quay("merchant m coins 9 credit 0;merchant n coins 0 credit " + grown[22] + ";");
        quay.lend(0, 1, 1);
        quay.pass(4);
        Due.is("as much as the credit on the last day", quay.until(1), -1);
    }

    /** "if nothing is done by hand": what the orders do is looked at. */
    private static void untilByOrders() {
        String text = "spice s loss 0;guild g fee 0 bias 0;merchant m coins 0 credit 0;merchant n coins 0 credit 19;"
                + "lot l of s sacks 1 for m;weigh l by g;sell l to n sum 19 when day = ";
        for (int day : new int[] {0, 6, 7, 143, 144, 146, 147, 150}) {
            int grown = day / 7 * 7 + 7;
            Due.is("bought on day " + day, Due.quay(text + day + ";").until(1), grown <= 150 ? grown : -1);
        }
        SpiceQuay paid = Due.quay("merchant m coins 99 credit 0;merchant n coins 9 credit 40;pay n to m sum 99 when day = 6;");
        paid.lend(0, 1, 40);
        Due.is("paid ahead of growing", paid.until(1), -1);
    }

    /** "Throws IndexOutOfBoundsException if there is no such merchant" */
    private static void untilNoSuchMerchant() {
        SpiceQuay quay = Due.quay(Due.fullList());
        for (int far : new int[] {-1, 6, 7, Integer.MIN_VALUE, Integer.MAX_VALUE}) {
            Due.refusesIndex(quay, "until " + far, () -> quay.until(far));
        }
        Due.is("the first one", quay.until(0), -1);
        Due.is("the last one", quay.until(5), -1);
        SpiceQuay empty = new SpiceQuay();
        Due.refusesIndex(empty, "until 0 of none", () -> empty.until(0));
    }

    /** "0 without any" */
    private static void meanOfNone() {
        Due.isDouble("new", new SpiceQuay().mean(), 0);
        SpiceQuay quay = Due.quay("spice s loss 5;merchant m coins 1 credit 1;");
        Due.isDouble("without lots", quay.mean(), 0);
        Due.teach(quay, "spice s loss 5;merchant m coins 1 credit 1;lot l of s sacks 7 for m;");
        Due.isDouble("of one", quay.mean(), 700);
        Due.teach(quay, "");
        Due.isDouble("without lots again", quay.mean(), 0);
    }

    /** "the mean weight of all lots" */
    private static void meanIsNotCut() {
        StringBuilder text = new StringBuilder("spice s loss 0;merchant m coins 0 credit 0;");
        int all = 0;
        for (int lots = 1; lots <= 10; lots++) {
            text.append("lot l" + lots + " of s sacks " + (lots == 10 ? 90 : lots) + " for m;");
            all += 100 * (lots == 10 ? 90 : lots);
            SpiceQuay quay = Due.quay(text.toString());
            Due.isDouble("of " + lots, quay.mean(), (double) all / lots);
            quay.dry(0);
            Due.isDouble("of " + lots + ", one dried", quay.mean(), (double) (all - 10) / lots);
            quay.dry(0);
            Due.isDouble("of " + lots + ", one dried twice", quay.mean(), (double) (all - 19) / lots);
        }
        Due.isDouble("of the full quay", Due.quay(Due.fullList()).mean(), 9000);
    }

    /** "A number d starts with 829", and what count() tells is all that there is of an empty quay. */
    private static void digestOfNothing() {
        long d = 829;
        int[] counts = {8, 7, 0, 0, 0, 0, 0, 0, 0, 0, 0, 0, 0, 40};
        for (int x : counts) {
            d = d * 31 + x;
        }
        SpiceQuay quay = new SpiceQuay();
        quay.pass(8);
        quay.setDamp(7);
        quay.feed(1, 2, 3, 4, 5);
        quay.feed(1, 2, 3, 4, 5);
        Due.is("digest", quay.digest(), d);
        Due.is("digest again", quay.digest(), d);
    }

    /** "which wraps around as a 64-bit integer", of all that is told, "all in their order" */
    private static void digestWrapsAround() {
        for (String text : new String[] {Due.fullList(), QUAY, "merchant m coins 5 credit 6;", "guild g fee 9 bias 8;"}) {
            for (int days : new int[] {0, 1, 8, 120}) {
                SpiceQuay quay = Due.quay(text);
                if (quay.count(4) > 1) {
                    quay.lend(0, 1, 44);
                    quay.lend(1, 0, 33);
                }
                if (days > 0) {
                    quay.pass(days);
                }
                quay.feed(0, 0, 0, 0, 0);
                Due.is("digest on day " + days, quay.digest(), told(quay));
            }
        }
    }

    private static long told(SpiceQuay quay) {
        BigInteger d = BigInteger.valueOf(829);
        for (int what = 0; what <= 13; what++) {
            d = with(d, quay.count(what));
        }
        int lots = quay.count(5);
        for (int lot = 0; lot < lots; lot++) {
            for (int what = 0; what <= 6; what++) {
                d = with(d, quay.lot(lot, what));
            }
        }
        int merchants = quay.count(4);
        for (int merchant = 0; merchant < merchants; merchant++) {
            for (int what = 0; what <= 5; what++) {
                d = with(d, quay.merchant(merchant, what));
            }
            for (int other = 0; other < merchants; other++) {
                d = with(d, quay.owes(merchant, other));
            }
        }
        int guilds = quay.count(3);
        for (int guild = 0; guild < guilds; guild++) {
            for (int what = 0; what <= 3; what++) {
                d = with(d, quay.guild(guild, what));
            }
        }
        int orders = quay.count(6);
        for (int order = 0; order < orders; order++) {
            for (int what = 0; what <= 4; what++) {
                d = with(d, quay.order(order, what));
            }
        }
        return d.longValue();
    }

    private static BigInteger with(BigInteger d, int x) {
        return d.multiply(BigInteger.valueOf(31)).add(BigInteger.valueOf(x));
    }
}
