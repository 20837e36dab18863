/** Promises 19 to 24: what would be. */
public final class AheadTest {
    private static final String QUAY = "spice s loss 5; guild g fee 2 bias 10; merchant m coins 40 credit 500;"
            + "merchant n coins 30 credit 500; lot l of s sacks 4 for m; lot k of s sacks 2 for n;"
            + "weigh l by g when day < 3; sell l to n sum 20; sell k to m sum 1; pay n to m sum 3;";
    private static final int[] WRONG_DAYS = {0, -1, 91, 121, 151, Integer.MAX_VALUE, Integer.MIN_VALUE};

    public static void main(String[] args) {
        foresee();
        foreseeWrong();
        costs();
        costsWrong();
        richest();
        richestOfSeveral();
        richestWrong();
        until();
        untilAtTheLast();
        mean();
        digest();
        digestOfAll();
        Due.end();
    }

    /** What is foreseen is what comes then, and nothing is changed by foreseeing. */
    private static void foresee() {
        for (int days : new int[] {1, 2, 7, 30, 89, 120}) {
            SpiceQuay quay = Due.quay(QUAY);
            quay.lend(0, 1, 10);
            quay.setDamp(4);
            quay.pass(1);
            long digest = quay.digest();
            int carriedOut = quay.foresee(days, 0);
            int[] then = new int[13];
            for (int what = 7; what <= 12; what++) {
                then[what] = quay.foresee(days, what);
            }
            Due.is("nothing changed", quay.digest(), digest);
            Due.is("carried out in " + days, quay.pass(days), carriedOut);
            for (int what = 7; what <= 12; what++) {
                Due.is("foresee " + days + " " + what, then[what], quay.count(what));
            }
        }
        SpiceQuay quay = Due.quay("spice s loss 9; guild g fee 4 bias 0; merchant m coins 9 credit 0;"
                + "merchant n coins 1 credit 10; lot l of s sacks 1 for m; weigh l by g; sell l to n sum 8; pay n to m sum 1;");
        quay.setDamp(9);
        // 100 weigh 92; the price of 8 is 7, of which 1 is there
        int[] want = {92, 6, 6, 1, 1, 0};
        for (int what = 7; what <= 12; what++) {
            Due.is("foresee " + what, quay.foresee(1, what), want[what - 7]);
        }
        Due.is("orders", quay.foresee(1, 0), 2);
        Due.is("day stays", quay.count(0), 0);
        Due.is("weight stays", quay.lot(0, 1), 100);
        Due.is("of an empty quay", new SpiceQuay().foresee(120, 9), 0);
    }

    private static void foreseeWrong() {
        SpiceQuay quay = Due.quay(QUAY);
        for (int wrong : new int[] {0, -1, 121, Integer.MAX_VALUE, Integer.MIN_VALUE}) {
            Due.argument("foresee " + wrong, () -> quay.foresee(wrong, 0));
            Due.argument("foresee " + wrong + " 6", () -> quay.foresee(wrong, 6));
        }
        for (int wrong : new int[] {-1, 1, 2, 3, 4, 5, 6, 13, 14, Integer.MAX_VALUE, Integer.MIN_VALUE}) {
            Due.index("foresee what " + wrong, () -> quay.foresee(1, wrong));
            Due.index("foresee 120 what " + wrong, () -> quay.foresee(120, wrong));
        }
    }

    private static void costs() {
        SpiceQuay quay = Due.quay(QUAY);
        long digest = quay.digest();
        Due.is("without damp", quay.costs(90, 0), 0);
        Due.is("a day", quay.costs(1, 3), 6 + 3);
        // 400 weigh 382, 365; 200 weigh 191, 183
        Due.is("two days of the most", quay.costs(2, 9), 35 + 17);
        Due.is("nothing changed", quay.digest(), digest);
        int before = quay.count(7);
        int most = quay.costs(90, 9);
        quay.setDamp(9);
        Due.is("whatever the damp is now", quay.costs(90, 9), most);
        quay.pass(90);
        Due.is("as it comes", before - quay.count(7), most);
        Due.is("of an empty quay", new SpiceQuay().costs(90, 9), 0);
    }

    private static void costsWrong() {
        SpiceQuay quay = Due.quay(QUAY);
        for (int wrong : WRONG_DAYS) {
            Due.argument("costs of " + wrong, () -> quay.costs(wrong, 3));
        }
        for (int wrong : new int[] {-1, 10, Integer.MAX_VALUE, Integer.MIN_VALUE}) {
            Due.argument("costs by " + wrong, () -> quay.costs(1, wrong));
        }
    }

    private static void richest() {
        SpiceQuay quay = Due.quay("spice s loss 0; guild g fee 9 bias 0; merchant a coins 30 credit 0;"
                + "merchant b coins 30 credit 0; merchant c coins 29 credit 0; lot l of s sacks 1 for a; lot k of s sacks 1 for b;"
                + "weigh l by g when day = 1; weigh k by g when day = 2;");
        long digest = quay.digest();
        Due.is("of two the first one", quay.richest(1), 0);
        Due.is("who pays on day 1 no more", quay.richest(2), 1);
        Due.is("who pays on day 2 no more", quay.richest(3), 2);
        Due.is("nothing changed", quay.digest(), digest);
        Due.is("the most days", quay.richest(90), 2);
    }

    private static void richestOfSeveral() {
        // What is owed counts for the one and against the other one, and grows.
        SpiceQuay quay = Due.quay("merchant a coins 50 credit 99; merchant b coins 60 credit 99;"
                + "merchant c coins 61 credit 99;");
        Due.is("by coins alone", quay.richest(1), 2);
        quay.lend(0, 2, 40);
        Due.is("coins that are owed are none", quay.richest(6), 2);
        // 40 are 43 behind a week: a has 53, c 58
        Due.is("debts grow", quay.richest(7), 1);
        SpiceQuay poor = Due.quay("merchant a coins 0 credit 99; merchant b coins 9 credit 99; merchant c coins 0 credit 99;");
        poor.lend(1, 0, 9);
        poor.lend(0, 2, 9);
        Due.is("claims and debts of one", poor.richest(6), 1);
        Due.is("several weeks", poor.richest(90), 1);
        SpiceQuay below = Due.quay("merchant a coins 0 credit 99; merchant b coins 1 credit 0;");
        below.lend(1, 0, 1);
        // a has 1 and owes 2, so not even 0 is there
        Due.is("less than nothing", below.richest(7), 1);
        SpiceQuay one = Due.quay("merchant a coins 0 credit 0;");
        Due.is("the only one", one.richest(90), 0);
        Due.is("none", new SpiceQuay().richest(90), -1);
    }

    private static void richestWrong() {
        SpiceQuay quay = Due.quay(QUAY);
        for (int wrong : WRONG_DAYS) {
            Due.argument("richest " + wrong, () -> quay.richest(wrong));
            Due.argument("richest of none " + wrong, () -> new SpiceQuay().richest(wrong));
        }
    }

    private static void until() {
        SpiceQuay quay = Due.quay("merchant m coins 500 credit 0; merchant n coins 0 credit 100;"
                + "merchant o coins 0 credit 100; merchant p coins 0 credit 0;");
        quay.lend(0, 1, 100);
        quay.lend(0, 2, 95);
        long digest = quay.digest();
        Due.is("behind the first week", quay.until(1), 7);
        // 95 are 100 then, and 106 behind the next one
        Due.is("behind the second week", quay.until(2), 14);
        Due.is("never, without debts", quay.until(0), -1);
        Due.is("never, without credit and debts", quay.until(3), -1);
        Due.is("nothing changed", quay.digest(), digest);
        quay.pass(6);
        Due.is("behind a day", quay.until(1), 1);
        quay.pass(1);
        Due.is("now", quay.until(1), 0);
        Due.is("the other one", quay.until(2), 7);
        for (int wrong : new int[] {-1, 4, Integer.MAX_VALUE, Integer.MIN_VALUE}) {
            Due.index("until " + wrong, () -> quay.until(wrong));
        }
    }

    private static void untilAtTheLast() {
        // 21 weeks end by day 147, and the 22nd one by day 154: that is behind 150 days from day 4 on.
        int grown = 1;
        for (int week = 0; week < 21; week++) {
            grown += grown / 20 + 1;
        }
        SpiceQuay last = Due.quay("merchant m coins 9 credit 0; merchant n coins 0 credit " + (grown + grown / 20) + ";");
        last.lend(0, 1, 1);
        Due.is("not behind 150 days", last.until(1), -1);
        last.pass(3);
        Due.is("not yet", last.until(1), -1);
        last.pass(1);
        Due.is("behind 150 days", last.until(1), 150);
        last.pass(1);
        Due.is("behind 149 days", last.until(1), 149);

        // Orders are carried out on the days that are looked at.
        SpiceQuay bought = Due.quay("spice s loss 0; guild g fee 0 bias 0; merchant m coins 0 credit 0;"
                + "merchant n coins 0 credit 30; lot l of s sacks 1 for m; weigh l by g; sell l to n sum 30 when day = 9;");
        Due.is("bought on day 9, grown on day 13", bought.until(1), 14);
    }

    private static void mean() {
        Due.isDouble("without any", new SpiceQuay().mean(), 0);
        SpiceQuay quay = Due.quay("spice s loss 1; merchant m coins 0 credit 0; lot a of s sacks 1 for m;"
                + "lot b of s sacks 2 for m; lot c of s sacks 1 for m;");
        Due.isDouble("of three", quay.mean(), 400.0 / 3);
        quay.dry(0);
        Due.isDouble("of three, dried", quay.mean(), 130);
        quay.dry(0);
        Due.isDouble("not cut", quay.mean(), 381.0 / 3);
        Due.teach(quay, "spice s loss 1; merchant m coins 0 credit 0; lot a of s sacks 90 for m; lot b of s sacks 1 for m;");
        quay.dry(1);
        quay.dry(1);
        Due.isDouble("a half", quay.mean(), 9081 / 2.0);
        Due.teach(quay, "merchant m coins 0 credit 0;");
        Due.isDouble("without lots any more", quay.mean(), 0);
    }

    private static void digest() {
        long d = 829;
        for (int what = 0; what <= 13; what++) {
            d = d * 31 + (what == 1 ? 3 : 0);
        }
        SpiceQuay quay = new SpiceQuay();
        Due.is("of an empty quay", quay.digest(), d);
        quay.feed(0, 0, 0, 0, 0);
        Due.is("with 20 bytes", quay.digest(), d + 20);
    }

    private static void digestOfAll() {
        for (int days = 0; days < 70; days++) {
            SpiceQuay quay = Due.quay(QUAY);
            quay.lend(0, 1, 10);
            if (days > 0) {
                quay.pass(days);
            }
            Due.is("of all on day " + days, quay.digest(), told(quay));
        }
    }

    private static long told(SpiceQuay quay) {
        long d = 829;
        for (int what = 0; what <= 13; what++) {
            d = d * 31 + quay.count(what);
        }
        for (int lot = 0; lot < quay.count(5); lot++) {
            for (int what = 0; what <= 6; what++) {
                d = d * 31 + quay.lot(lot, what);
            }
        }
        for (int merchant = 0; merchant < quay.count(4); merchant++) {
            for (int what = 0; what <= 5; what++) {
                d = d * 31 + quay.merchant(merchant, what);
            }
            for (int other = 0; other < quay.count(4); other++) {
                d = d * 31 + quay.owes(merchant, other);
            }
        }
        for (int guild = 0; guild < quay.count(3); guild++) {
            for (int what = 0; what <= 3; what++) {
                d = d * 31 + quay.guild(guild, what);
            }
        }
        for (int order = 0; order < quay.count(6); order++) {
            for (int what = 0; what <= 4; what++) {
                d = d * 31 + quay.order(order, what);
            }
        }
        return d;
    }
}
