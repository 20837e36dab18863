/** The edges of promises 14 to 17, by hand; each test bears its sentence, or belongs to the one ahead of it. */
public final class HandEdgesTest {
    private static final int[] FAR = {-1, -2, Integer.MIN_VALUE, Integer.MAX_VALUE};

    public static void main(String[] args) {
        dampFrom0To9();
        dampFromNowOn();
        coinsFrom1To9999();
        lendOneself();
        asManyCoins();
        creditOfTheSecondOne();
        debtsToOthers();
        moreThanTheCreditAlready();
        owedThen();
        lendNoSuchMerchant();
        lendFirstNamed();
        offsetTheLesser();
        offsetLeavesTheOthers();
        offsetOneself();
        offsetFirstNamed();
        dryByATenth();
        dryTakesTheChop();
        dryNoSuchLot();
        emptyQuay();
        Due.end();
    }

    /** "Throws IllegalArgumentException if damp is not 0 to 9"; "Returns the one before." */
    private static void dampFrom0To9() {
        SpiceQuay quay = new SpiceQuay();
        int before = 3;
        for (int damp : new int[] {0, 9, 1, 8, 2, 7, 3, 6, 4, 5, 5, 9, 0}) {
            Due.is("setDamp " + damp, quay.setDamp(damp), before);
            Due.is("damp", quay.count(1), damp);
            before = damp;
            for (int wrong : new int[] {-1, 10, 11, Integer.MIN_VALUE, Integer.MAX_VALUE}) {
                Due.refusesArgument(quay, "setDamp " + wrong, () -> quay.setDamp(wrong));
            }
        }
    }

    private static void dampFromNowOn() {
        SpiceQuay quay = Due.quay("spice s loss 1;merchant m coins 0 credit 0;lot l of s sacks 10 for m;");
        int[] damps = {0, 9, 1, 0, 3};
        int[] weights = {1000, 991, 991, 991, 989};
        for (int i = 0; i < damps.length; i++) {
            quay.setDamp(damps[i]);
            Due.is("nothing is lost at once", quay.lot(0, 1), i == 0 ? 1000 : weights[i - 1]);
            quay.pass(1);
            Due.is("weight with " + damps[i], quay.lot(0, 1), weights[i]);
        }
    }

    private static SpiceQuay three(int coins, int credit) {
        return Due.quay("merchant a coins " + coins + " credit 9999;merchant b coins 0 credit " + credit
                + ";merchant c coins 9999 credit 9999;");
    }

    /** "or coins is not 1 to 9999" */
    private static void coinsFrom1To9999() {
        for (int wrong : new int[] {0, -1, -9999, 10000, 10001, Integer.MIN_VALUE, Integer.MAX_VALUE}) {
            SpiceQuay quay = three(9999, 9999);
            Due.refusesArgument(quay, "lend " + wrong, () -> quay.lend(0, 1, wrong));
        }
        for (int coins : new int[] {1, 2, 9998, 9999}) {
            SpiceQuay quay = three(9999, 9999);
            Due.is("lend " + coins, quay.lend(0, 1, coins), coins);
            Due.is("coins of the one", quay.merchant(0, 0), 9999 - coins);
            Due.is("coins of the other one", quay.merchant(1, 0), coins);
        }
        SpiceQuay rich = three(9999, 9999);
        rich.lend(2, 0, 9999);
        Due.refusesArgument(rich, "10000 of 19998", () -> rich.lend(0, 1, 10000));
        Due.is("9999 of 19998", rich.lend(0, 1, 9999), 9999);
    }

    /** "Throws IllegalArgumentException if both are the same" */
    private static void lendOneself() {
        SpiceQuay quay = three(50, 50);
        for (int a = 0; a < 3; a++) {
            int same = a;
            Due.refusesArgument(quay, "lend oneself", () -> quay.lend(same, same, 1));
        }
    }

    /** "Throws IllegalStateException if the first one has fewer coins" */
    private static void asManyCoins() {
        for (int coins : new int[] {0, 1, 50, 9998}) {
            SpiceQuay quay = three(coins, 9999);
            Due.refusesState(quay, "one more than " + coins, () -> quay.lend(0, 1, coins + 1));
            if (coins > 0) {
                Due.is("all of " + coins, quay.lend(0, 1, coins), coins);
                Due.is("none are left", quay.merchant(0, 0), 0);
                Due.refusesState(quay, "of none", () -> quay.lend(0, 1, 1));
            }
        }
    }

    /** "or the debts of the second one would be more than the credit" */
    private static void creditOfTheSecondOne() {
        for (int credit : new int[] {0, 1, 50, 9998}) {
            SpiceQuay quay = three(9999, credit);
            Due.refusesState(quay, "one more than the credit " + credit, () -> quay.lend(0, 1, credit + 1));
            if (credit > 0) {
                Due.is("all of the credit " + credit, quay.lend(0, 1, credit), credit);
                Due.refusesState(quay, "beyond it", () -> quay.lend(0, 1, 1));
                Due.refusesState(quay, "beyond it, by another one", () -> quay.lend(2, 1, 1));
            }
        }
    }

    /** "Debts of a merchant: all that this one owes, added." What is owed to this one is not taken from it. */
    private static void debtsToOthers() {
        SpiceQuay quay = three(100, 10);
        quay.lend(2, 1, 4);
        Due.refusesState(quay, "7 and 4 of 10", () -> quay.lend(0, 1, 7));
        Due.is("6 and 4 of 10", quay.lend(0, 1, 6), 6);
        quay.lend(1, 0, 9);
        Due.refusesState(quay, "10 are owed, though 9 are owed to this one", () -> quay.lend(0, 1, 1));
        quay.offset(0, 1);
        Due.is("when they are set off", quay.lend(0, 1, 6), 6);
        Due.refusesState(quay, "and no more", () -> quay.lend(0, 1, 1));
    }

    private static void moreThanTheCreditAlready() {
        SpiceQuay quay = three(100, 10);
        quay.lend(0, 1, 10);
        quay.pass(7);
        Due.is("grown", quay.merchant(1, 2), 11);
        Due.refusesState(quay, "beyond the credit", () -> quay.lend(0, 1, 1));
        Due.is("this one can lend", quay.lend(1, 0, 1), 1);
    }

    /** "Returns how much the second one owes the first one then." */
    private static void owedThen() {
        SpiceQuay quay = three(100, 100);
        Due.is("a to b", quay.lend(0, 1, 5), 5);
        Due.is("a to b again", quay.lend(0, 1, 6), 11);
        Due.is("c to b", quay.lend(2, 1, 7), 7);
        Due.is("b to a", quay.lend(1, 0, 3), 3);
        Due.is("a to b once more", quay.lend(0, 1, 1), 12);
        Due.is("b owes a", quay.owes(1, 0), 12);
        Due.is("b owes c", quay.owes(1, 2), 7);
        Due.is("a owes b", quay.owes(0, 1), 3);
        Due.is("coins of a", quay.merchant(0, 0), 100 - 5 - 6 + 3 - 1);
        Due.is("coins of b", quay.merchant(1, 0), 5 + 6 + 7 - 3 + 1);
        Due.is("no time was paid", quay.count(12), 0);
    }

    private static void lendNoSuchMerchant() {
        SpiceQuay quay = three(100, 100);
        for (int far : FAR) {
            Due.refusesIndex(quay, "lend of " + far, () -> quay.lend(far, 1, 1));
            Due.refusesIndex(quay, "lend to " + far, () -> quay.lend(1, far, 1));
        }
        Due.refusesIndex(quay, "lend of 3", () -> quay.lend(3, 1, 1));
        Due.refusesIndex(quay, "lend to 3", () -> quay.lend(0, 3, 1));
        Due.is("lend of 2 to 0", quay.lend(2, 0, 1), 1);
    }

    /** "If several exceptions apply, the one that is named first is thrown." */
    private static void lendFirstNamed() {
        SpiceQuay quay = three(10, 10);
        for (int far : new int[] {-1, 3, Integer.MIN_VALUE, Integer.MAX_VALUE}) {
            Due.refusesIndex(quay, "no such ones, both the same", () -> quay.lend(far, far, 1));
            Due.refusesIndex(quay, "no such first one, 0 coins", () -> quay.lend(far, 1, 0));
            Due.refusesIndex(quay, "no such second one, 0 coins", () -> quay.lend(0, far, 0));
            Due.refusesIndex(quay, "no such first one, 10000 coins", () -> quay.lend(far, 1, 10000));
            Due.refusesIndex(quay, "no such second one, 10000 coins", () -> quay.lend(0, far, 10000));
            Due.refusesIndex(quay, "no such first one, too little credit", () -> quay.lend(far, 1, 11));
            Due.refusesIndex(quay, "no such second one, too few coins", () -> quay.lend(0, far, 11));
        }
        Due.refusesArgument(quay, "the same, too few coins", () -> quay.lend(0, 0, 11));
        Due.refusesArgument(quay, "the same, too little credit", () -> quay.lend(1, 1, 11));
        Due.refusesArgument(quay, "10000 coins, of 10, for 10", () -> quay.lend(0, 1, 10000));
        quay.lend(0, 1, 10);
        Due.refusesArgument(quay, "0 coins, of none", () -> quay.lend(0, 1, 0));
        Due.refusesArgument(quay, "less than 0 coins, of none", () -> quay.lend(0, 1, -1));
    }

    /** "the lesser one of both debts is taken from both"; "Returns how much is set off." */
    private static void offsetTheLesser() {
        int[][] debts = {{0, 0}, {0, 5}, {5, 0}, {1, 5}, {5, 1}, {5, 5}, {1, 1}, {4, 5}, {5, 4}, {9999, 9999}, {9998, 9999}};
        for (int[] each : debts) {
            for (int turn = 0; turn < 2; turn++) {
                SpiceQuay quay = Due.quay("merchant a coins 9999 credit 9999;merchant b coins 9999 credit 9999;");
                if (each[0] > 0) {
                    quay.lend(1, 0, each[0]);
                }
                if (each[1] > 0) {
                    quay.lend(0, 1, each[1]);
                }
                int coins = quay.merchant(0, 0);
                int both = Math.min(each[0], each[1]);
                Due.is("offset", quay.offset(turn, 1 - turn), both);
                Due.is("a owes then", quay.owes(0, 1), each[0] - both);
                Due.is("b owes then", quay.owes(1, 0), each[1] - both);
                Due.is("coins stay", quay.merchant(0, 0), coins);
                Due.is("no more is set off", quay.offset(turn, 1 - turn), 0);
            }
        }
    }

    private static void offsetLeavesTheOthers() {
        SpiceQuay quay = Due.quay("merchant a coins 99 credit 99;merchant b coins 99 credit 99;merchant c coins 99 credit 99;");
        quay.lend(0, 1, 10);
        quay.lend(1, 2, 20);
        quay.lend(2, 0, 30);
        quay.lend(1, 0, 4);
        Due.is("a and c", quay.offset(0, 2), 0);
        Due.is("a and b", quay.offset(1, 0), 4);
        Due.is("b owes a", quay.owes(1, 0), 6);
        Due.is("a owes b", quay.owes(0, 1), 0);
        Due.is("c owes b", quay.owes(2, 1), 20);
        Due.is("a owes c", quay.owes(0, 2), 30);
        Due.is("in all", quay.count(8), 56);
    }

    /** "Throws IllegalArgumentException if both are the same" */
    private static void offsetOneself() {
        SpiceQuay quay = three(100, 100);
        quay.lend(0, 1, 9);
        for (int a = 0; a < 3; a++) {
            int same = a;
            Due.refusesArgument(quay, "offset of oneself", () -> quay.offset(same, same));
        }
    }

    /** "Throws IndexOutOfBoundsException if there is no such merchant", ahead of both being the same. */
    private static void offsetFirstNamed() {
        SpiceQuay quay = three(100, 100);
        for (int far : new int[] {-1, 3, 4, Integer.MIN_VALUE, Integer.MAX_VALUE}) {
            Due.refusesIndex(quay, "no such ones, both the same", () -> quay.offset(far, far));
            Due.refusesIndex(quay, "no such first one", () -> quay.offset(far, 2));
            Due.refusesIndex(quay, "no such second one", () -> quay.offset(2, far));
        }
        Due.is("the last one", quay.offset(2, 0), 0);
    }

    /** "it weighs as much less as its weight / 10 (cut)"; "Returns its weight then." */
    private static void dryByATenth() {
        int[] weights = {90, 81, 73, 66, 60, 54, 49, 45, 41, 37, 34, 31, 28, 26, 24, 22, 20, 18, 17, 16, 15, 14, 13, 12, 11, 10, 9,
            9, 9};
        SpiceQuay quay = Due.quay("spice s loss 9;merchant m coins 0 credit 0;lot l of s sacks 1 for m;lot k of s sacks 90 for m;");
        for (int weight : weights) {
            Due.is("dry", quay.dry(0), weight);
            Due.is("weight", quay.lot(0, 1), weight);
            Due.is("of all lots", quay.count(7), 9000 + weight);
        }
        Due.is("of the greatest weight", quay.dry(1), 8100);
        Due.is("the other one", quay.lot(0, 1), 9);
        Due.is("and again", quay.dry(1), 7290);
    }

    /** "and bears no chop" */
    private static void dryTakesTheChop() {
        SpiceQuay quay = Due.quay("spice s loss 0;guild g fee 3 bias 0;merchant m coins 9 credit 0;merchant n coins 99 credit 0;"
                + "lot l of s sacks 1 for m;lot k of s sacks 1 for m;weigh l by g when day = 0;weigh k by g when day = 0;"
                + "sell l to n sum 1 when day > 0;pay m to n sum age l + chop l;weigh l by g when day > 0 and chop l + age l > 0;");
        quay.pass(1);
        Due.is("would be sold", quay.order(2, 3), 1);
        Due.is("has a chop", quay.order(4, 3), 1);
        Due.is("dry", quay.dry(0), 90);
        int[] dried = {0, 90, 0, -1, 0, 0, 0};
        int[] other = {0, 100, 0, 0, 100, 1, 1};
        for (int what = 0; what <= 6; what++) {
            Due.is("dried lot " + what, quay.lot(0, what), dried[what]);
            Due.is("other lot " + what, quay.lot(1, what), other[what]);
        }
        Due.is("would not be sold", quay.order(2, 3), 0);
        Due.is("has none", quay.order(4, 3), 0);
        Due.is("bear its chop", quay.guild(0, 3), 1);
        Due.is("earned stays", quay.guild(0, 2), 6);
        Due.is("weighed stays", quay.count(11), 2);
        Due.is("without a chop", quay.dry(0), 81);
        Due.is("guild of none", quay.lot(0, 3), -1);
    }

    /** "Throws IndexOutOfBoundsException if there is no such lot" */
    private static void dryNoSuchLot() {
        SpiceQuay quay = Due.quay(Due.fullList());
        for (int far : new int[] {-1, 10, 11, Integer.MIN_VALUE, Integer.MAX_VALUE}) {
            Due.refusesIndex(quay, "dry " + far, () -> quay.dry(far));
        }
        Due.is("the last one", quay.dry(9), 8100);
        Due.is("the first one", quay.dry(0), 8100);
        Due.is("all others stay", quay.count(7), 88200);
    }

    private static void emptyQuay() {
        SpiceQuay quay = new SpiceQuay();
        Due.refusesIndex(quay, "lend", () -> quay.lend(0, 1, 1));
        Due.refusesIndex(quay, "lend oneself", () -> quay.lend(0, 0, 0));
        Due.refusesIndex(quay, "offset", () -> quay.offset(0, 1));
        Due.refusesIndex(quay, "offset oneself", () -> quay.offset(0, 0));
        Due.refusesIndex(quay, "dry", () -> quay.dry(0));
        Due.is("setDamp", quay.setDamp(9), 3);
    }
}
