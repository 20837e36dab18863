/** Promise 18 and what a day is: losses, orders, tests and sums, and how debts grow. */
public final class DaysTest {
    private static final String QUAY = "spice s loss 0; guild g fee 0 bias 0; merchant m coins 40 credit 500;"
            + "merchant n coins 30 credit 500; lot l of s sacks 4 for m; lot k of s sacks 2 for n;";

    public static void main(String[] args) {
        days();
        losses();
        weigh();
        sell();
        sellByAge();
        sellOnCredit();
        sellOverCredit();
        pay();
        debtsGrow();
        debtsAtTheMost();
        turns();
        sums();
        tests();
        things();
        Due.end();
    }

    private static void days() {
        SpiceQuay quay = Due.quay(QUAY + "weigh l by g; weigh k by g when day < 100;");
        for (int wrong : new int[] {0, -1, 121, Integer.MAX_VALUE, Integer.MIN_VALUE}) {
            Due.argument("pass " + wrong, () -> quay.pass(wrong));
        }
        Due.is("no day went by", quay.count(0), 0);
        Due.is("one", quay.pass(1), 2);
        Due.is("the most", quay.pass(120), 120 + 99);
        Due.is("day", quay.count(0), 121);
        Due.is("first order", quay.order(0, 4), 121);
        Due.is("second order", quay.order(1, 4), 100);
        Due.is("weighed", quay.count(11), 221);
    }

    private static void losses() {
        SpiceQuay quay = Due.quay("spice s loss 1; spice t loss 9; merchant m coins 0 credit 0; lot a of s sacks 1 for m;"
                + "lot b of t sacks 90 for m; lot c of s sacks 90 for m;");
        quay.pass(1);
        lots(quay, 100, 9000 - 243, 9000 - 27);
        quay.setDamp(0);
        quay.pass(3);
        lots(quay, 100, 8757, 8973);
        quay.setDamp(9);
        quay.pass(1);
        lots(quay, 100, 8757 - 709, 8973 - 80);
        quay.pass(120);
        quay.pass(120);
        Due.is("no more to lose", quay.lot(1, 1), 12);
    }

    private static void lots(SpiceQuay quay, int... weights) {
        for (int i = 0; i < weights.length; i++) {
            Due.is("weight " + i, quay.lot(i, 1), weights[i]);
        }
    }

    private static void weigh() {
        SpiceQuay quay = Due.quay("spice s loss 1; guild g fee 7 bias 20; guild h fee 0 bias 1; merchant m coins 20 credit 0;"
                + "lot l of s sacks 33 for m; weigh l by g when day < 3; weigh l by h when day = 5;");
        Due.is("two fees are there", quay.pass(3), 2);
        Due.is("coins", quay.merchant(0, 0), 6);
        Due.is("earned", quay.guild(0, 2), 14);
        // 3300 weigh 3291 and 3282 then; a fifth of the latter is 656
        Due.is("weight of the chop", quay.lot(0, 4), 3282 - 656);
        Due.is("made on day 1", quay.lot(0, 5), 2);
        Due.is("without coins a fee of 0 is paid", quay.pass(3), 1);
        Due.is("guild", quay.lot(0, 3), 1);
        Due.is("the other one bears none", quay.guild(0, 3), 0);
        // 3273, 3264, 3255, 3246
        Due.is("weight of the other chop", quay.lot(0, 4), 3246 - 32);

        SpiceQuay just = Due.quay("spice s loss 0; guild g fee 99 bias 0; merchant m coins 99 credit 0; merchant n coins 98"
                + " credit 0; lot l of s sacks 1 for m; lot k of s sacks 1 for n; weigh l by g; weigh k by g;");
        Due.is("as many coins as the fee", just.pass(2), 1);
        Due.is("none left", just.merchant(0, 0), 0);
        Due.is("too few stay", just.merchant(1, 0), 98);
    }

    private static void sell() {
        SpiceQuay quay = Due.quay(QUAY + "sell l to n sum 3;");
        Due.is("without a chop", quay.pass(1), 0);
        quay = Due.quay(QUAY + "weigh l by g when day = 0; sell l to m sum 3; sell l to n sum 3; sell l to n sum 3;");
        Due.is("once, not to whom it belongs", quay.pass(1), 2);
        Due.is("owner", quay.lot(0, 2), 1);
        Due.is("seller", quay.merchant(0, 0), 52);
        Due.is("buyer", quay.merchant(1, 0), 18);
        Due.is("no debts", quay.count(8), 0);
        Due.is("chop stays", quay.lot(0, 4), 400);
        Due.is("sold", quay.count(10), 1);
        Due.is("back and on", quay.pass(1), 2);
        Due.is("owner again", quay.lot(0, 2), 1);
        Due.is("seller again", quay.merchant(0, 0), 52);

        String biased = "spice s loss 0; guild g fee 0 bias 1; merchant m coins 0 credit 0; merchant n coins 9999 credit 0;"
                + "lot l of s sacks 1 for m; weigh l by g; sell l to n sum ";
        int[][] sumsAndPrices = {{1, 0}, {2, 1}, {100, 99}, {999, 989}, {1000, 989}, {999999, 989}, {0, 0}};
        for (int[] each : sumsAndPrices) {
            quay = Due.quay(biased + each[0] + ";");
            Due.is("sum " + each[0], quay.pass(1), 2);
            Due.is("price of " + each[0], quay.merchant(0, 0), each[1]);
        }
        quay = Due.quay(biased + "-999;");
        Due.is("sum below 0", quay.pass(1), 2);
        Due.is("price of it", quay.merchant(0, 0), 0);
        Due.is("it is sold", quay.lot(0, 2), 1);
    }

    private static void sellByAge() {
        for (int day = 0; day <= 8; day++) {
            SpiceQuay quay = Due.quay(QUAY + "weigh l by g when day = 2; sell l to n sum 1 when day = " + day + ";");
            quay.pass(10);
            Due.is("sold on day " + day, quay.count(10), day >= 2 && day <= 7 ? 1 : 0);
        }
    }

    private static void sellOnCredit() {
        String text = "spice s loss 0; guild g fee 0 bias 0; merchant m coins 0 credit 0; merchant n coins 10 credit ";
        SpiceQuay just = Due.quay(text + "20; lot l of s sacks 1 for m; weigh l by g; sell l to n sum 30;");
        Due.is("as much as the credit", just.pass(1), 2);
        Due.is("rest", just.owes(1, 0), 20);
        Due.is("none the other way", just.owes(0, 1), 0);
        Due.is("coins of the buyer", just.merchant(1, 0), 0);
        Due.is("coins of the seller", just.merchant(0, 0), 10);
        SpiceQuay less = Due.quay(text + "19; lot l of s sacks 1 for m; weigh l by g; sell l to n sum 30;");
        Due.is("one too much", less.pass(1), 1);
        Due.is("nothing is paid", less.merchant(1, 0), 10);
        Due.is("nothing is owed", less.count(8), 0);
        Due.is("it belongs to the same one", less.lot(0, 2), 0);

        // What is owed to others counts, and what others owe is not set off.
        SpiceQuay third = Due.quay("spice s loss 0; guild g fee 0 bias 0; merchant m coins 0 credit 99; merchant n coins 9"
                + " credit 20; merchant o coins 50 credit 0; lot l of s sacks 1 for m; weigh l by g; sell l to n sum 30;");
        third.lend(2, 1, 5);
        third.lend(1, 0, 9);
        Due.is("5 of 20 are owed already", third.pass(1), 1);
        third.lend(2, 0, 10);
        third.lend(2, 0, 10);
        Due.is("the same, though the seller owes", third.pass(1), 1);
    }

    private static void sellOverCredit() {
        String text = "spice s loss 0; guild g fee 0 bias 0; merchant m coins 500 credit 0; merchant n coins 0 credit 100;"
                + "lot l of s sacks 1 for m; weigh l by g; sell l to n sum ";
        for (String sum : new String[] {"0", "1"}) {
            SpiceQuay quay = Due.quay(text + sum + " when day = 7;");
            quay.lend(0, 1, 100);
            quay.pass(7);
            Due.is("grown beyond the credit", quay.merchant(1, 2), 106);
            Due.is("no rest, but too many debts", quay.pass(1), 1);
        }
        SpiceQuay quay = Due.quay(text + "1 when day = 7;");
        quay.lend(0, 1, 95);
        quay.pass(7);
        Due.is("grown to the credit", quay.merchant(1, 2), 100);
        Due.is("no rest, not too many debts", quay.pass(1), 2);
    }

    private static void pay() {
        String text = "merchant m coins 500 credit 500; merchant n coins 20 credit 500; pay n to m sum ";
        int[][] lentSumPaid = {{50, 30, 30}, {50, 60, 50}, {50, 0, 0}, {200, 999999, 200}, {50, 1, 1}};
        for (int[] each : lentSumPaid) {
            SpiceQuay quay = Due.quay(text + each[1] + ";");
            quay.lend(0, 1, each[0]);
            Due.is("pay", quay.pass(1), each[2] > 0 ? 1 : 0);
            Due.is("owed", quay.owes(1, 0), each[0] - each[2]);
            Due.is("payer", quay.merchant(1, 0), 20 + each[0] - each[2]);
            Due.is("the other one", quay.merchant(0, 0), 500 - each[0] + each[2]);
            Due.is("times", quay.count(12), each[2] > 0 ? 1 : 0);
        }
        SpiceQuay below = Due.quay(text + "-5;");
        below.lend(0, 1, 50);
        Due.is("sum below 0", below.pass(1), 0);
        SpiceQuay fewCoins = Due.quay("merchant m coins 500 credit 500; merchant n coins 0 credit 500;"
                + "merchant o coins 0 credit 500; pay n to m sum 90; pay m to m sum 9;");
        fewCoins.lend(0, 1, 60);
        fewCoins.lend(1, 2, 50);
        Due.is("the coins there are", fewCoins.pass(2), 1);
        Due.is("owed then", fewCoins.owes(1, 0), 50);
        Due.is("coins then", fewCoins.merchant(1, 0), 0);
        Due.is("oneself can't be paid", fewCoins.order(1, 4), 0);
    }

    private static void debtsGrow() {
        int[][] debts = {{1, 2}, {19, 20}, {20, 22}, {39, 41}, {40, 43}, {9999, 10499}};
        for (int[] each : debts) {
            SpiceQuay quay = Due.quay("merchant m coins 9999 credit 0; merchant n coins 0 credit 9999;");
            quay.lend(0, 1, each[0]);
            quay.pass(6);
            Due.is("day 6", quay.owes(1, 0), each[0]);
            quay.pass(1);
            Due.is("day 7", quay.owes(1, 0), each[1]);
            Due.is("nothing doesn't grow", quay.owes(0, 1), 0);
            quay.pass(6);
            Due.is("day 13", quay.owes(1, 0), each[1]);
            quay.pass(1);
            Due.is("day 14", quay.owes(1, 0), each[1] + each[1] / 20 + 1);
        }
        SpiceQuay paid = Due.quay("merchant m coins 100 credit 0; merchant n coins 0 credit 100; pay n to m sum 40"
                + " when day = 6;");
        paid.lend(0, 1, 100);
        paid.pass(7);
        Due.is("paid ahead of growing", paid.owes(1, 0), 64);
    }

    private static void debtsAtTheMost() {
        SpiceQuay quay = Due.quay("merchant m coins 9999 credit 0; merchant n coins 0 credit 9999;");
        quay.lend(0, 1, 9999);
        int debt = 9999;
        for (int week = 0; week < 60; week++) {
            quay.pass(7);
            debt = Math.min(99999, debt + debt / 20 + 1);
            Due.is("week " + week, quay.owes(1, 0), debt);
        }
        Due.is("the most", debt, 99999);
    }

    private static void turns() {
        // The loss comes first; what an order does is there for the next one; the day ends behind them.
        SpiceQuay quay = Due.quay("spice s loss 5; guild g fee 1 bias 0; merchant m coins 3 credit 0; merchant n coins 10"
                + " credit 0; lot l of s sacks 10 for m; weigh l by g when weight l = 985;"
                + "weigh l by g when coins m = 2 and chop l = 985; sell l to n sum coins m when owns m l;"
                + "weigh l by g when owns n l and day = 0; weigh l by g when owns m l;");
        Due.is("in their order", quay.pass(1), 4);
        // coins of m were 1, and the price 9
        Due.is("price", quay.merchant(0, 0), 10);
        Due.is("the new owner pays the fee", quay.merchant(1, 0), 10 - 9 - 1);
        Due.is("the seller is no owner any more", quay.order(4, 4), 0);
    }

    private static void sums() {
        holds("1+2*3 = 7", true);
        holds("(1+2)*3 = 9", true);
        holds("10-3-2 = 5", true);
        holds("100/10/2 = 5", true);
        holds("7*3/2*2 = 20", true);
        holds("7/2 = 3", true);
        holds("-7/2 = -3", true);
        holds("7/-2 = -3", true);
        holds("-7/-2 = 3", true);
        holds("5/0 = 0", true);
        holds("-5/(3-3) = 0", true);
        holds("0/0 = 0", true);
        holds("-2+5 = 3", true);
        holds("--2 = 2", true);
        holds("2--2 = 4", true);
        holds("-(1+2)*2 = -6", true);
        holds("999999*999999 = -(729379*1000+967)", true);
        holds("999999*2147+485795 < 0", true);
        holds("999999*2147+485794 > 0", true);
        holds("(999999*2147+485795)/-1 = 999999*2147+485795", true);
        holds("-(999999*2147+485795) = 999999*2147+485795", true);
        holds("-(999999*2147+485794)-2 = 999999*2147+485794", true);
        holds("min(3,4) = 3 and min(4,3) = 3 and min(-3,3) = -3", true);
        holds("max(3,4) = 4 and max(4,3) = 4 and max(-3,3) = 3", true);
        holds("max(min(1,2)+1,1*1)-1 = 1", true);
    }

    private static void tests() {
        String[] signs = {"<", ">", "=", "<=", ">="};
        boolean[][] due = {{true, false, false, true, false}, {false, false, true, true, true},
            {false, true, false, false, true}};
        for (int i = 0; i < 5; i++) {
            for (int left = 1; left <= 3; left++) {
                holds(left + signs[i] + 2, due[left - 1][i]);
                holds(-left + signs[i] + "-2", due[3 - left][i]);
            }
        }
        String[] truth = {"1=2", "1=1"};
        for (int a = 0; a < 2; a++) {
            holds("not " + truth[a], a == 0);
            holds("not not " + truth[a], a == 1);
            for (int b = 0; b < 2; b++) {
                holds(truth[a] + " and " + truth[b], a + b == 2);
                holds(truth[a] + " or " + truth[b], a + b > 0);
            }
        }
        holds("1=1 or 1=1 and 1=2", true);
        holds("[1=1 or 1=1] and 1=2", false);
        holds("1=2 and 1=1 or 1=1", true);
        holds("1=2 and [1=1 or 1=1]", false);
        holds("not 1=2 and 1=2", false);
        holds("not [1=2 and 1=2]", true);
        holds("not 1=1 or 1=1", true);
        holds("not [1=1 or 1=1]", false);
    }

    private static void things() {
        holds("day = 7 and damp = 4", true);
        holds("weight l = 400 and weight k = 200", true);
        holds("chop l = 400 and age l = 5", true);
        holds("chop k = 0 and age k = 0", true);
        holds("coins m = 20 and coins n = 50", true);
        holds("debts n = 22 and debts m = 0", true);
        holds("owes n m = 22 and owes m n = 0", true);
        holds("owes n n = 0 and owes m m = 0", true);
        holds("owns m l", true);
        holds("owns n l", false);
        holds("owns n k and not owns m k", true);
    }

    /** Whether it holds on day 7, with a chop on l of day 2, and 22 owed by n to m. */
    private static void holds(String test, boolean due) {
        // No test speaks of z, so it can be weighed ahead of day 7 too.
        SpiceQuay quay = Due.quay(QUAY + "lot z of s sacks 1 for m; weigh l by g when day = 2;"
                + "weigh z by g when " + test + "; weigh k by g when [" + test + "] and day = 7;");
        quay.lend(0, 1, 20);
        quay.setDamp(4);
        quay.pass(7);
        Due.is(test + " now", quay.order(1, 3), due ? 1 : 0);
        quay.pass(1);
        Due.is(test, quay.order(2, 4), due ? 1 : 0);
    }
}
