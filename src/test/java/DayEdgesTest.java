/** The edges of section 2, the quay, and of promise 18; each test bears its sentence, or belongs to the one ahead of it. */
public final class DayEdgesTest {
    private static final String QUAY = "spice s loss 0;guild g fee 0 bias 0;merchant m coins 40 credit 500;"
            + "merchant n coins 30 credit 500;lot l of s sacks 4 for m;";
    /** The greatest number of 32 bits, in numbers of 6 digits; one more is the least one. */
    private static final String MAX = "999999*2147+485794";
    private static final String MIN = MAX + "+1";

    public static void main(String[] args) {
        daysFrom1To120();
        weightsAtFirst();
        weightLost();
        weighWithAsManyCoinsAsTheFee();
        biasIsCut();
        chopInThePlace();
        chopStays();
        sellFrom0To5Days();
        sellAgainByANewChop();
        notToTheOwnerNorWithoutChop();
        sumHeldAt0To999();
        sumOfASaleWrapsAround();
        priceIsCut();
        coinsAndRest();
        greatestPrice();
        debtsToAll();
        nothingSetOff();
        moreThanTheCreditAlready();
        leastIs1OrMore();
        sumOfAPaymentWrapsAround();
        oneself();
        growOnDay6By7();
        growByATwentieth();
        growTo99999();
        allDebtsAt99999();
        growBehindTheOrders();
        ordersInTheirOrder();
        sumsWrapAround();
        differencesWrapAround();
        productsWrapAround();
        quotientsWrapAround();
        endsAreCompared();
        valuesAtFirst();
        valuesOnADay();
        sidesOfTests();
        longestSum();
        longestTest();
        Due.end();
    }

    /** "Throws IllegalArgumentException if days is not 1 to 120"; "Returns how many orders are carried out in them." */
    private static void daysFrom1To120() {
        SpiceQuay quay = Due.quay(QUAY + "weigh l by g;weigh l by g when day = 119 or day = 0;");
        for (int days : new int[] {0, -1, 121, 122, -120, Integer.MAX_VALUE, Integer.MIN_VALUE}) {
            Due.refusesArgument(quay, "pass " + days, () -> quay.pass(days));
            Due.is("the day stays", quay.count(0), 0);
        }
        Due.is("the most days", quay.pass(120), 122);
        Due.is("day", quay.count(0), 120);
        Due.refusesArgument(quay, "pass 0", () -> quay.pass(0));
        Due.refusesArgument(quay, "pass 121", () -> quay.pass(121));
        Due.is("the fewest days", quay.pass(1), 1);
        Due.is("day", quay.count(0), 121);
        Due.is("without orders", Due.quay("").pass(120), 0);
    }

    /** "A lot has a weight, 100 for each sack at first", and "bears [..] none (at first)" */
    private static void weightsAtFirst() {
        for (int sacks : new int[] {1, 2, 89, 90}) {
            SpiceQuay quay = Due.quay("spice s loss 9;merchant m coins 0 credit 0;lot l of s sacks " + sacks + " for m;");
            int[] lot = {0, 100 * sacks, 0, -1, 0, 0, 0};
            for (int what = 0; what <= 6; what++) {
                Due.is(sacks + " sacks, what " + what, quay.lot(0, what), lot[what]);
            }
        }
    }

    /** "Each lot weighs less by its weight * loss of its spice * damp / 1000 (cut)." */
    private static void weightLost() {
        // sacks, loss, damp, the weight behind a day, and behind two
        int[][] days = {{1, 0, 9, 100, 100}, {1, 9, 0, 100, 100}, {1, 1, 9, 100, 100}, {1, 3, 3, 100, 100},
            {1, 2, 5, 99, 99}, {1, 5, 2, 99, 99}, {2, 1, 5, 199, 199}, {1, 9, 9, 92, 85}, {90, 9, 9, 8271, 7602},
            {90, 1, 1, 8991, 8983}, {11, 1, 1, 1099, 1098}, {10, 1, 1, 999, 999}, {9, 1, 1, 900, 900}};
        for (int[] each : days) {
            SpiceQuay quay = Due.quay("spice s loss " + each[1] + ";merchant m coins 0 credit 0;lot l of s sacks " + each[0]
                    + " for m;");
            quay.setDamp(each[2]);
            quay.pass(1);
            Due.is("behind a day", quay.lot(0, 1), each[3]);
            quay.pass(1);
            Due.is("behind two days", quay.lot(0, 1), each[4]);
        }
    }

    /** "if the merchant to whom the lot belongs has as many coins as the fee of the guild" */
    private static void weighWithAsManyCoinsAsTheFee() {
        int[][] feeAndCoins = {{0, 0}, {0, 1}, {1, 0}, {1, 1}, {1, 2}, {99, 98}, {99, 99}, {99, 100}};
        for (int[] each : feeAndCoins) {
            SpiceQuay quay = Due.quay("spice s loss 0;guild g fee " + each[0] + " bias 0;merchant m coins " + each[1]
                    + " credit 9999;merchant n coins 9999 credit 0;lot l of s sacks 1 for m;weigh l by g;");
            boolean can = each[1] >= each[0];
            Due.is("would be, fee " + each[0] + ", coins " + each[1], quay.order(0, 3), can ? 1 : 0);
            Due.is("orders", quay.pass(1), can ? 1 : 0);
            Due.is("coins", quay.merchant(0, 0), can ? each[1] - each[0] : each[1]);
            Due.is("earned", quay.guild(0, 2), can ? each[0] : 0);
            Due.is("chop", quay.lot(0, 3), can ? 0 : -1);
            Due.is("weighed", quay.count(11), can ? 1 : 0);
            Due.is("times", quay.order(0, 4), can ? 1 : 0);
            Due.is("nobody owes for it", quay.count(8), 0);
        }
    }

    /** "with its weight, less weight * bias / 100 (cut)" */
    private static void biasIsCut() {
        // times that it is dried: 100, 90, 81, 73, 66, 60, 54, 49, 45; bias; weight of the chop
        int[][] weights = {{0, 0, 100}, {0, 1, 99}, {0, 20, 80}, {1, 1, 90}, {1, 2, 89}, {1, 20, 72}, {2, 1, 81}, {2, 5, 77},
            {3, 20, 59}, {6, 1, 54}, {6, 2, 53}, {7, 2, 49}, {7, 3, 48}, {8, 20, 36}, {8, 0, 45}};
        for (int[] each : weights) {
            SpiceQuay quay = Due.quay("spice s loss 0;guild g fee 0 bias " + each[1]
                    + ";merchant m coins 0 credit 0;lot l of s sacks 1 for m;weigh l by g;");
            for (int i = 0; i < each[0]; i++) {
                quay.dry(0);
            }
            int weight = quay.lot(0, 1);
            quay.pass(1);
            Due.is("weight of the chop of " + weight + " with bias " + each[1], quay.lot(0, 4), each[2]);
            Due.is("the lot weighs the same", quay.lot(0, 1), weight);
        }
    }

    /** "the lot bears the chop of this guild, in the place of the one that it bore: with its weight, [..] made on this day" */
    private static void chopInThePlace() {
        SpiceQuay quay = Due.quay("spice s loss 5;guild g fee 0 bias 0;guild h fee 0 bias 10;merchant m coins 0 credit 0;"
                + "lot l of s sacks 10 for m;weigh l by g when day = 0;weigh l by h when day = 2;");
        quay.pass(1);
        lot(quay, 985, 0, 0, 985, 1, 1);
        Due.is("bear the one", quay.guild(0, 3), 1);
        Due.is("bear the other one", quay.guild(1, 3), 0);
        quay.pass(1);
        lot(quay, 971, 0, 0, 985, 2, 1);
        quay.pass(1);
        // 971 less 14 are 957, of which 95 are not weighed
        lot(quay, 957, 0, 1, 862, 1, 1);
        Due.is("bear the one no more", quay.guild(0, 3), 0);
        Due.is("bear the other one then", quay.guild(1, 3), 1);
    }

    private static void lot(SpiceQuay quay, int... want) {
        for (int what = 1; what <= 6; what++) {
            Due.is("lot " + what + " on day " + quay.count(0), quay.lot(0, what), want[what - 1]);
        }
    }

    /** The weight of the chop is the one of its day, and the price is of it, whatever the lot weighs then. */
    private static void chopStays() {
        SpiceQuay quay = Due.quay("spice s loss 9;guild g fee 0 bias 0;merchant m coins 0 credit 0;merchant n coins 9999 credit 0;"
                + "lot l of s sacks 10 for m;weigh l by g when day = 0;sell l to n sum 100 when day = 5;");
        quay.setDamp(9);
        quay.pass(1);
        Due.is("919 is the weight, and the chop's", quay.lot(0, 4), 919);
        quay.pass(5);
        Due.is("the chop's is the same", quay.lot(0, 4), 919);
        Due.is("the lot's is not", quay.lot(0, 1) < 700 ? 1 : 0, 1);
        Due.is("price", quay.merchant(0, 0), 919);
    }

    /** "if the lot bears a chop that was made on this day, or at most 5 days ahead of it" */
    private static void sellFrom0To5Days() {
        SpiceQuay told = Due.quay(QUAY + "weigh l by g when day = 2;");
        for (int day = 0; day <= 9; day++) {
            Due.is("age on day " + day, told.lot(0, 5), day > 2 ? day - 2 : 0);
            Due.is("can be sold on day " + day, told.lot(0, 6), day > 2 && day <= 7 ? 1 : 0);
            told.pass(1);
        }
        for (int age = 0; age <= 8; age++) {
            SpiceQuay quay = Due.quay(QUAY + "weigh l by g when day = 2;sell l to n sum 1 when day = " + (age + 2) + ";");
            quay.pass(age + 2);
            Due.is("would be sold at the age " + age, quay.order(1, 3), age >= 1 && age <= 5 ? 1 : 0);
            Due.is("orders", quay.pass(1), age == 0 ? 2 : age <= 5 ? 1 : 0);
            Due.is("owner", quay.lot(0, 2), age <= 5 ? 1 : 0);
            Due.is("sold", quay.count(10), age <= 5 ? 1 : 0);
        }
    }

    private static void sellAgainByANewChop() {
        for (int day = 11; day <= 13; day++) {
            SpiceQuay quay = Due.quay(QUAY + "weigh l by g when day = 0 or day = 6;sell l to n sum 1 when day = " + day + ";");
            quay.pass(20);
            Due.is("sold on day " + day, quay.count(10), day <= 11 ? 1 : 0);
        }
    }

    /** "and does not belong to the buyer"; "bears a chop" */
    private static void notToTheOwnerNorWithoutChop() {
        SpiceQuay quay = Due.quay(QUAY + "weigh l by g when day = 0;sell l to m sum 1;sell l to n sum 1;sell l to n sum 1;");
        Due.is("without a chop", quay.order(1, 3) + quay.order(2, 3), 0);
        Due.is("weighed and sold once", quay.pass(1), 2);
        Due.is("to the one who had it", quay.order(1, 3), 1);
        Due.is("to the one who has it", quay.order(2, 3), 0);
        quay.dry(0);
        Due.is("a dried one has no chop", quay.order(1, 3), 0);
        Due.is("no more sales", quay.pass(1), 0);
    }

    /** "the price is the sum, held at 0 to 999, * weight of the chop / 100" */
    private static void sumHeldAt0To999() {
        String[] sums = {"-999999", "-1", "0", "1", "2", "998", "999", "1000", "999999"};
        int[] prices = {0, 0, 0, 4, 8, 3992, 3996, 3996, 3996};
        for (int i = 0; i < sums.length; i++) {
            price(sums[i], prices[i]);
        }
    }

    /** "sums, differences and products of the language wrap around in 32 bits" */
    private static void sumOfASaleWrapsAround() {
        price(MAX, 3996);
        price(MIN, 0);
        price("-(" + MIN + ")", 0);
        price("-(" + MAX + ")-1", 0);
        price("-(" + MAX + ")-2", 3996);
        price("999999*999999", 0);
        price("65536*65536", 0);
        price("65536*65536+1", 4);
        price("(" + MIN + ")/-1", 0);
        price("5/0", 0);
        price("7/-2", 0);
        price("-7/-2", 12);
    }

    /** What m gets for 4 sacks. */
    private static void price(String sum, int due) {
        SpiceQuay quay = Due.quay("spice s loss 0;guild g fee 0 bias 0;merchant m coins 0 credit 0;"
                + "merchant n coins 9999 credit 0;lot l of s sacks 4 for m;weigh l by g;sell l to n sum " + sum + ";");
        Due.is("orders with " + sum, quay.pass(1), 2);
        Due.is("price of " + sum, quay.merchant(0, 0), due);
        Due.is("paid of it", quay.merchant(1, 0), 9999 - due);
        Due.is("belongs to the buyer", quay.lot(0, 2), 1);
    }

    /** "* weight of the chop / 100 (cut)" */
    private static void priceIsCut() {
        // a lot of 90, and then of 81
        int[][] sumsAndPrices = {{1, 0, 0}, {2, 1, 1}, {10, 9, 8}, {111, 99, 89}, {112, 100, 90}, {999, 899, 809}};
        for (int[] each : sumsAndPrices) {
            for (int dried = 1; dried <= 2; dried++) {
                SpiceQuay quay = Due.quay("spice s loss 0;guild g fee 0 bias 0;merchant m coins 0 credit 0;"
                        + "merchant n coins 9999 credit 0;lot l of s sacks 1 for m;weigh l by g;sell l to n sum " + each[0] + ";");
                for (int i = 0; i < dried; i++) {
                    quay.dry(0);
                }
                quay.pass(1);
                Due.is("price of " + each[0], quay.merchant(0, 0), each[dried]);
            }
        }
    }

    /** "The buyer pays as many coins of it as there are, and owes the seller the rest" */
    private static void coinsAndRest() {
        // coins and credit of the buyer, price; if it is sold, coins and debts of the buyer then
        int[][] sales = {{10, 0, 9, 1, 1, 0}, {10, 0, 10, 1, 0, 0}, {10, 0, 11, 0, 10, 0}, {10, 1, 11, 1, 0, 1},
            {10, 1, 12, 0, 10, 0}, {0, 0, 0, 1, 0, 0}, {0, 0, 1, 0, 0, 0}, {0, 1, 1, 1, 0, 1}, {0, 5, 5, 1, 0, 5},
            {0, 5, 6, 0, 0, 0}, {10, 5, 15, 1, 0, 5}, {10, 5, 16, 0, 10, 0}, {9999, 9999, 999, 1, 9000, 0}};
        for (int[] each : sales) {
            SpiceQuay quay = sale(each[0], each[1], each[2]);
            Due.is("would be sold", quay.order(1, 3), each[3]);
            Due.is("sold", quay.pass(1), each[3]);
            Due.is("coins of the buyer", quay.merchant(1, 0), each[4]);
            Due.is("debts of the buyer", quay.owes(1, 0), each[5]);
            Due.is("coins of the seller", quay.merchant(0, 0), each[0] - each[4]);
            Due.is("the seller owes nothing", quay.owes(0, 1), 0);
            Due.is("belongs to", quay.lot(0, 2), each[3]);
        }
    }

    /** m has a lot of 100, with a chop from day 1 on, that n would buy for so much from then on. */
    private static SpiceQuay sale(int coins, int credit, int price) {
        SpiceQuay quay = Due.quay("spice s loss 0;guild g fee 0 bias 0;merchant m coins 0 credit 999;merchant n coins " + coins
                + " credit " + credit + ";merchant o coins 99 credit 0;lot l of s sacks 1 for m;"
                + "weigh l by g when day = 0;sell l to n sum " + price + " when day > 0;");
        quay.pass(1);
        return quay;
    }

    /** 9999 coins and 9999 owed are the most that a lot is sold for. */
    private static void greatestPrice() {
        // sacks, sum, coins and credit of the buyer; if it is sold, and the debts then
        int[][] sales = {{22, 909, 9999, 9999, 1, 9999}, {22, 910, 9999, 9999, 0, 0}, {22, 909, 9998, 9999, 0, 0},
            {22, 909, 9999, 9998, 0, 0}, {90, 222, 9999, 9999, 1, 9981}, {90, 223, 9999, 9999, 0, 0}, {90, 999, 9999, 9999, 0, 0}};
        for (int[] each : sales) {
            SpiceQuay quay = Due.quay("spice s loss 0;guild g fee 0 bias 0;merchant m coins 0 credit 0;merchant n coins " + each[2]
                    + " credit " + each[3] + ";lot l of s sacks " + each[0] + " for m;weigh l by g;sell l to n sum " + each[1] + ";");
            Due.is("orders", quay.pass(1), 1 + each[4]);
            Due.is("sold", quay.count(10), each[4]);
            Due.is("debts", quay.owes(1, 0), each[5]);
            Due.is("coins of the buyer", quay.merchant(1, 0), each[4] == 1 ? 0 : each[2]);
            Due.is("coins of the seller", quay.merchant(0, 0), each[4] == 1 ? each[2] : 0);
        }
    }

    /** "if the debts of the buyer (to all, [..]) would be more than the credit by that" */
    private static void debtsToAll() {
        for (int price = 14; price <= 16; price++) {
            SpiceQuay quay = sale(10, 5, price);
            quay.lend(2, 1, 3);
            // 13 coins are there then
            Due.is("would be sold for " + price, quay.order(1, 3), price <= 15 ? 1 : 0);
            Due.is("sold for " + price, quay.pass(1), price <= 15 ? 1 : 0);
            Due.is("owed to the seller", quay.owes(1, 0), price <= 15 ? price - 13 : 0);
            Due.is("owed to the other one", quay.owes(1, 2), 3);
        }
    }

    /** "nothing set off" */
    private static void nothingSetOff() {
        for (int price = 14; price <= 16; price++) {
            SpiceQuay quay = sale(19, 5, price);
            quay.lend(1, 0, 9);
            Due.is("sold for " + price, quay.pass(1), price <= 15 ? 1 : 0);
            Due.is("owed to the seller", quay.owes(1, 0), price <= 15 ? price - 10 : 0);
            Due.is("owed by the seller", quay.owes(0, 1), 9);
        }
    }

    /** "also if there is no rest, but the debts are more than the credit already" */
    private static void moreThanTheCreditAlready() {
        // credit, price: a debt of 1 is one of 2 on day 7, and 11 coins are there
        int[][] sales = {{1, 0, 0}, {1, 1, 0}, {1, 10, 0}, {1, 11, 0}, {1, 12, 0}, {2, 0, 1}, {2, 1, 1}, {2, 11, 1}, {2, 12, 0},
            {3, 12, 1}, {3, 13, 0}};
        for (int[] each : sales) {
            SpiceQuay quay = Due.quay("spice s loss 0;guild g fee 0 bias 0;merchant m coins 1 credit 0;merchant n coins 10 credit "
                    + each[0] + ";lot l of s sacks 1 for m;weigh l by g;sell l to n sum " + each[1] + " when day = 7;");
            quay.lend(0, 1, 1);
            quay.pass(7);
            Due.is("debts", quay.merchant(1, 2), 2);
            Due.is("would be sold", quay.order(1, 3), each[2]);
            Due.is("orders", quay.pass(1), 1 + each[2]);
            Due.is("belongs to", quay.lot(0, 2), each[2]);
        }
    }

    /** "if [..] the least of the sum, what the one owes the other one, and the coins of the one, is 1 or more" */
    private static void leastIs1OrMore() {
        // what n owes m, the coins of n, the sum, and what is paid
        int[][] payments = {{0, 9, 9, 0}, {1, 9, 9, 1}, {2, 9, 9, 2}, {9, 0, 9, 0}, {9, 1, 9, 1}, {9, 2, 9, 2}, {9, 9, 0, 0},
            {9, 9, 1, 1}, {9, 9, 2, 2}, {9, 9, 9, 9}, {9, 9, 10, 9}, {9, 8, 10, 8}, {8, 9, 10, 8}, {1, 1, 1, 1}, {0, 0, 0, 0},
            {9, 99, 999999, 9}, {999, 999, 999999, 999}};
        for (int[] each : payments) {
            SpiceQuay quay = payment(each[0], each[1], "" + each[2]);
            int done = each[3] > 0 ? 1 : 0;
            Due.is("would be paid", quay.order(0, 3), done);
            Due.is("orders", quay.pass(1), done);
            Due.is("times", quay.count(12), done);
            Due.is("coins of the one", quay.merchant(1, 0), each[1] - each[3]);
            Due.is("owed then", quay.owes(1, 0), each[0] - each[3]);
            Due.is("coins of the other one", quay.merchant(0, 0), 999 - each[0] + each[3]);
        }
    }

    private static void sumOfAPaymentWrapsAround() {
        String[] sums = {MAX, MIN, "-(" + MIN + ")", "-(" + MAX + ")-2", "65536*65536", "65536*65536+1", "(" + MIN + ")/-1",
            "-1", "5/0", "-999999*999999", "999999*999999"};
        int[] paid = {8, 0, 0, 8, 0, 1, 0, 0, 0, 8, 0};
        for (int i = 0; i < sums.length; i++) {
            SpiceQuay quay = payment(8, 9, sums[i]);
            Due.is("orders with " + sums[i], quay.pass(1), paid[i] > 0 ? 1 : 0);
            Due.is("owed then", quay.owes(1, 0), 8 - paid[i]);
        }
    }

    /** n owes m so much and has so many coins, and pays this sum. */
    private static SpiceQuay payment(int debt, int coins, String sum) {
        int first = Math.max(0, coins - debt);
        SpiceQuay quay = Due.quay("merchant m coins 999 credit 0;merchant n coins " + first
                + " credit 999;merchant o coins 0 credit 999;pay n to m sum " + sum + ";");
        if (debt > 0) {
            quay.lend(0, 1, debt);
        }
        if (first + debt > coins) {
            quay.lend(1, 2, first + debt - coins);
        }
        Due.is("coins", quay.merchant(1, 0), coins);
        Due.is("owed", quay.owes(1, 0), debt);
        return quay;
    }

    /** "if both are different" */
    private static void oneself() {
        SpiceQuay quay = Due.quay("merchant m coins 99 credit 99;merchant n coins 99 credit 99;pay m to m sum 5;pay n to n sum 5;");
        quay.lend(0, 1, 9);
        quay.lend(1, 0, 9);
        Due.is("m would not be paid", quay.order(0, 3), 0);
        Due.is("n would not be paid", quay.order(1, 3), 0);
        Due.is("orders", quay.pass(1), 0);
        Due.is("nobody paid", quay.count(12), 0);
    }

    /** "In days with the remainder 6 by 7" */
    private static void growOnDay6By7() {
        SpiceQuay quay = Due.quay("merchant m coins 99 credit 0;merchant n coins 0 credit 99;");
        quay.lend(0, 1, 1);
        for (int day = 0; day < 100; day++) {
            int before = quay.owes(1, 0);
            quay.pass(1);
            Due.is("grown on day " + day, quay.owes(1, 0), day % 7 == 6 ? before + before / 20 + 1 : before);
        }
    }

    /** "each debt of 1 or more grows by a twentieth (cut) of it and 1" */
    private static void growByATwentieth() {
        int[][] debts = {{0, 0}, {1, 2}, {2, 3}, {18, 19}, {19, 20}, {20, 22}, {21, 23}, {39, 41}, {40, 43}, {41, 44}, {99, 104},
            {100, 106}, {9998, 10498}, {9999, 10499}};
        for (int[] each : debts) {
            SpiceQuay quay = Due.quay("merchant m coins 9999 credit 9999;merchant n coins 9999 credit 9999;");
            if (each[0] > 0) {
                quay.lend(0, 1, each[0]);
                quay.lend(1, 0, each[0]);
            }
            quay.pass(7);
            Due.is("owed by n", quay.owes(1, 0), each[1]);
            Due.is("owed by m, of which nothing is set off", quay.owes(0, 1), each[1]);
            Due.is("in all", quay.count(8), 2 * each[1]);
        }
    }

    /** "(at most to 99999)" */
    private static void growTo99999() {
        int[][] debts = {{95235, 99997}, {95236, 99998}, {95237, 99999}, {95238, 99999}, {95239, 99999}, {99131, 99999}};
        for (int[] each : debts) {
            SpiceQuay quay = Due.quay("merchant m coins 9999 credit 9999;merchant n coins 0 credit 9999;");
            quay.lend(0, 1, 9999);
            for (int week = 0; week < 47; week++) {
                quay.pass(7);
            }
            Due.is("47 weeks", quay.owes(1, 0), 99132);
            quay.lend(1, 0, 99132 - each[0]);
            quay.offset(0, 1);
            Due.is("the rest of it", quay.owes(1, 0), each[0]);
            quay.pass(7);
            Due.is(each[0] + " grown", quay.owes(1, 0), each[1]);
            quay.pass(7);
            Due.is("and grown again", quay.owes(1, 0), 99999);
            quay.pass(120);
            Due.is("the most stays", quay.owes(1, 0), 99999);
        }
    }

    private static void allDebtsAt99999() {
        StringBuilder text = new StringBuilder("merchant m coins 0 credit 9995;");
        for (int i = 1; i < 6; i++) {
            text.append("merchant m" + i + " coins 9999 credit 0;");
        }
        SpiceQuay quay = Due.quay(text.toString());
        for (int i = 1; i < 6; i++) {
            quay.lend(i, 0, 1999);
        }
        for (int i = 0; i < 6; i++) {
            quay.pass(120);
        }
        for (int i = 1; i < 6; i++) {
            Due.is("owed to " + i, quay.owes(0, i), 99999);
            Due.is("this one is owed", quay.merchant(i, 3), 99999);
        }
        Due.is("debts", quay.merchant(0, 2), 499995);
        Due.is("all that is owed", quay.count(8), 499995);
        Due.is("the first one of those who are owed", quay.richest(90), 1);
    }

    /** Step 3 comes behind the orders of its day: what is owed by one of them grows, and what is paid doesn't. */
    private static void growBehindTheOrders() {
        SpiceQuay quay = Due.quay("spice s loss 0;guild g fee 0 bias 0;merchant m coins 0 credit 0;merchant n coins 0 credit 40;"
                + "lot l of s sacks 1 for m;weigh l by g;sell l to n sum 19 when day = 6;");
        quay.pass(6);
        Due.is("nothing yet", quay.count(8), 0);
        quay.pass(1);
        Due.is("19 are 20", quay.owes(1, 0), 20);
        for (int day = 5; day <= 8; day++) {
            SpiceQuay paid = Due.quay("merchant m coins 99 credit 0;merchant n coins 0 credit 99;pay n to m sum 60 when day = "
                    + day + ";");
            paid.lend(0, 1, 80);
            paid.pass(9);
            // 20 are 22, but 80 are 85
            Due.is("paid on day " + day, paid.owes(1, 0), day <= 6 ? 22 : 25);
        }
    }

    /** "Orders, in the order in which they are told: if the test holds as it comes to its turn" */
    private static void ordersInTheirOrder() {
        SpiceQuay quay = Due.quay("spice s loss 0;guild g fee 0 bias 0;merchant m coins 10 credit 0;merchant n coins 10 credit 9;"
                + "lot l of s sacks 1 for m;"
                + "sell l to n sum 12;"
                + "weigh l by g when chop l = 0;"
                + "weigh l by g when chop l = 0;"
                + "sell l to n sum 12 when owns m l;"
                + "sell l to n sum 12 when owns m l;"
                + "pay n to m sum 5;"
                + "sell l to m sum coins m when owns n l and debts n = 2 and coins n = 0;"
                + "pay n to m sum 1 when coins n = 20;"
                + "weigh l by g when age l = 0 and day = 0 and owes n m = 1;");
        for (int order = 0; order < 9; order++) {
            Due.is("now order " + order, quay.order(order, 3), order == 1 || order == 2 ? 1 : 0);
        }
        int[] due = {0, 1, 0, 1, 0, 0, 1, 1, 1};
        Due.is("orders", quay.pass(1), 5);
        for (int order = 0; order < 9; order++) {
            Due.is("order " + order, quay.order(order, 4), due[order]);
        }
        Due.is("sold", quay.count(10), 2);
        Due.is("weighed", quay.count(11), 2);
        Due.is("paid", quay.count(12), 1);
        Due.is("coins of m", quay.merchant(0, 0), 1);
        Due.is("coins of n", quay.merchant(1, 0), 19);
    }

    private static void sumsWrapAround() {
        holds(MAX + " > 0", true);
        holds(MAX + "+1 < 0", true);
        holds(MAX + "+1 < " + MAX, true);
        holds(MIN + "+" + MIN + " = 0", true);
        holds(MIN + "+" + MAX + " = -1", true);
        holds(MAX + "+" + MAX + " = -2", true);
        holds(MIN + "-1 = " + MAX, true);
    }

    private static void differencesWrapAround() {
        holds("-(" + MAX + ")-1 < 0", true);
        holds("-(" + MAX + ")-2 > 0", true);
        holds("-(" + MAX + ")-2 = " + MAX, true);
        holds("0-(" + MIN + ") = " + MIN, true);
        holds("-(" + MIN + ") = " + MIN, true);
        holds("-1-(" + MIN + ") = " + MAX, true);
        holds(MAX + "-(" + MIN + ") = -1", true);
        holds("(" + MIN + ")-(" + MAX + ") = 1", true);
    }

    private static void productsWrapAround() {
        holds("65536*65536 = 0", true);
        holds("65536*32768 = " + MIN, true);
        holds("65536*32767 > 0", true);
        holds("65536*-32768 = " + MIN, true);
        holds("46340*46340 > 0 and 46341*46341 < 0", true);
        holds("(" + MAX + ")*2 = -2", true);
        holds("(" + MAX + ")*(" + MAX + ") = 1", true);
        holds("(" + MIN + ")*2 = 0", true);
        holds("(" + MIN + ")*-1 = " + MIN, true);
        holds("(" + MIN + ")*(" + MIN + ") = 0", true);
        holds("999999*999999+729379*1000+967 = 0", true);
    }

    /** "/ is cut towards 0, gives 0 with 0 on the right side, and -2147483648 / -1 gives -2147483648" */
    private static void quotientsWrapAround() {
        holds("(" + MIN + ")/-1 = " + MIN, true);
        holds("(" + MIN + ")/1 = " + MIN, true);
        holds("(" + MAX + ")/-1 = -(" + MAX + ")", true);
        holds("(" + MIN + ")/(" + MIN + ") = 1", true);
        holds("(" + MIN + ")/(" + MAX + ") = -1", true);
        holds("(" + MAX + ")/(" + MIN + ") = 0", true);
        holds("(" + MIN + ")/0 = 0", true);
        holds("(" + MAX + ")/0 = 0", true);
        holds("0/0 = 0 and 1/0 = 0 and -1/0 = 0", true);
        holds("7/(day-day) = 0 and 7/-0 = 0", true);
        holds("1/0 < 0 or 1/0 > 0", false);
        holds("0/7 = 0 and 0/-7 = 0", true);
        holds("1/2 = 0 and -1/2 = 0 and 1/-2 = 0 and -1/-2 = 0", true);
        holds("2/2 = 1 and -2/2 = -1 and 3/2 = 1 and -3/2 = -1 and 3/-2 = -1 and -3/-2 = 1", true);
        holds("(" + MIN + ")/-2 = 65536*16384", true);
    }

    /** Numbers are compared as they are, not by their difference, which could wrap around. */
    private static void endsAreCompared() {
        holds(MIN + " < " + MAX, true);
        holds(MAX + " > " + MIN, true);
        holds(MAX + " < " + MIN, false);
        holds(MIN + " <= " + MAX, true);
        holds(MIN + " >= " + MAX, false);
        holds(MIN + " = " + MAX, false);
        holds(MIN + " = " + MIN + " and " + MIN + " <= " + MIN + " and " + MIN + " >= " + MIN, true);
        holds(MIN + " < " + MIN + " or " + MAX + " > " + MAX, false);
        holds("min(" + MIN + "," + MAX + ") = " + MIN, true);
        holds("max(" + MIN + "," + MAX + ") = " + MAX, true);
        holds("min(" + MAX + "," + MIN + ") = " + MIN, true);
        holds("max(" + MAX + "," + MIN + ") = " + MAX, true);
        holds("min(-1,0) = -1 and max(-1,0) = 0 and min(3,3) = 3 and max(3,3) = 3", true);
    }

    /** What there is on the first day, ahead of all orders. */
    private static void valuesAtFirst() {
        holds("day = 0", true);
        holds("damp = 3", true);
        holds("weight l = 400", true);
        holds("chop l = 0 and age l = 0", true);
        holds("coins m = 40 and coins n = 30", true);
        holds("debts m = 0 and debts n = 0", true);
        holds("owes m n = 0 and owes n m = 0 and owes m m = 0 and owes n n = 0", true);
        holds("owns m l", true);
        holds("owns n l", false);
    }

    /** Of two weighings, one by this test and one by its contrary, the one would be carried out. */
    private static void holds(String test, boolean due) {
        SpiceQuay quay = Due.quay(QUAY + "lot z of s sacks 1 for m;weigh z by g when " + test + ";weigh z by g when not [" + test
                + "];");
        Due.is(test, quay.order(0, 3), due ? 1 : 0);
        Due.is("not " + test, quay.order(1, 3), due ? 0 : 1);
        Due.is("one of both with " + test, quay.pass(1), 1);
        Due.is(test + " on the day", quay.order(0, 4), due ? 1 : 0);
    }

    /** "age how many days ago it was made (0 without one) [..] owes what the first one owes the second one (0, if both are the same)" */
    private static void valuesOnADay() {
        String[] tests = {"day = 3", "damp = 9", "weight l = 400", "chop l = 380", "age l = 2", "chop k = 0 and age k = 0",
            "coins m = 27", "coins n = 42", "coins o = 1", "debts n = 12 and debts m = 5 and debts o = 0",
            "owes n m = 8 and owes n o = 4 and owes m n = 0 and owes m o = 5", "owes n n = 0 and owes m m = 0",
            "owns m l and owns o k", "not owns n l and not owns o l and not owns m k",
            // and each a little off
            "day = 2 or day = 4", "damp < 9", "weight l = 380", "chop l = 400", "age l = 1 or age l = 3", "debts n = 8 or debts n = 4",
            "owes m n > 0", "owns n l or owns m k"};
        for (int i = 0; i < tests.length; i++) {
            SpiceQuay quay = Due.quay("spice s loss 0;guild g fee 10 bias 5;merchant m coins 40 credit 500;"
                    + "merchant n coins 30 credit 500;merchant o coins 10 credit 500;lot l of s sacks 4 for m;lot k of s sacks 2 for o;"
                    + "weigh l by g when day = 1;weigh k by g when day = 0;weigh l by g when day = 3 and [" + tests[i] + "];");
            quay.lend(0, 1, 8);
            quay.lend(2, 1, 4);
            quay.lend(2, 0, 5);
            quay.setDamp(9);
            quay.pass(3);
            Due.is(tests[i], quay.order(2, 3), i < 14 ? 1 : 0);
        }
    }

    /** "Both sides of and and or are reckoned; and binds more than or, not more than and." */
    private static void sidesOfTests() {
        String[] truth = {"1/0 > 0", "owns m l"};
        for (int bits = 0; bits < 8; bits++) {
            String a = truth[bits & 1];
            String b = truth[bits >> 1 & 1];
            String c = truth[bits >> 2];
            boolean x = (bits & 1) == 1;
            boolean y = (bits >> 1 & 1) == 1;
            boolean z = bits >> 2 == 1;
            holds(a + " or " + b + " and " + c, x || y && z);
            holds(a + " and " + b + " or " + c, x && y || z);
            holds("[" + a + " or " + b + "] and " + c, (x || y) && z);
            holds(a + " and [" + b + " or " + c + "]", x && (y || z));
            holds("not " + a + " and " + b + " or " + c, !x && y || z);
            holds("not " + a + " or " + b + " and not " + c, !x || y && !z);
            holds("not [" + a + " and " + b + "] or " + c, !(x && y) || z);
        }
    }

    /** A sum in a list of 400 tokens, the most that there can be: 44, and two for each further 1. */
    private static void longestSum() {
        String ones = QUAY + "weigh l by g when 1" + "+1".repeat(178);
        Due.is("179 of them", Due.quay(ones + "=179;").order(0, 3), 1);
        Due.is("not 178", Due.quay(ones + "=178;").order(0, 3), 0);
        String less = QUAY + "weigh l by g when 1" + "-1".repeat(178);
        Due.is("1 less 178", Due.quay(less + "<0;").order(0, 3), 1);
        String doubled = QUAY + "weigh l by g when 1" + "*2".repeat(31);
        Due.is("31 times doubled", Due.quay(doubled + "=" + MIN + ";").order(0, 3), 1);
        Due.is("32 times doubled", Due.quay(doubled + "*2=0;").order(0, 3), 1);
        String halved = QUAY + "weigh l by g when " + MAX + "/1" + "/2".repeat(100);
        Due.is("485794 halved to nothing", Due.quay(halved + "=999999*2147;").order(0, 3), 1);
        String nested = QUAY + "weigh l by g when " + "max(1,1+".repeat(8) + "1" + ")".repeat(8);
        Due.is("nested to the depth 8", Due.quay(nested + "=9;").order(0, 3), 1);
    }

    /** The same of a test: 44, and four for each further comparison. */
    private static void longestTest() {
        String all = QUAY + "weigh l by g when 1=1" + " and 1=1".repeat(88);
        Due.is("all hold", Due.quay(all + " and 1=1;").order(0, 3), 1);
        Due.is("all but the last one hold", Due.quay(all + " and 1=2;").order(0, 3), 0);
        String none = QUAY + "weigh l by g when 1=2" + " or 1=2".repeat(88);
        Due.is("none holds", Due.quay(none + " or 1=2;").order(0, 3), 0);
        Due.is("the last one holds", Due.quay(none + " or 1=1;").order(0, 3), 1);
        Due.is("the first one doesn't", Due.quay(all.replaceFirst("1=1", "1=2") + ";").order(0, 3), 0);
        Due.is("the first one does", Due.quay(none.replaceFirst("1=2", "1=1") + ";").order(0, 3), 1);
    }
}
