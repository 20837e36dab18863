/** The edges of promises 6 to 13, what there is; each test bears its sentence, or belongs to the one ahead of it. */
public final class ToldEdgesTest {
    private static final int[] FAR = {-1, -2, Integer.MIN_VALUE, Integer.MAX_VALUE};

    public static void main(String[] args) {
        countsOfTheFullQuay();
        countsFrom0To13();
        bytesOfTheTape();
        lotsOfTheFullQuay();
        noSuchLot();
        merchantsOfTheFullQuay();
        noSuchMerchant();
        guildsOfTheFullQuay();
        noSuchGuild();
        ordersOfTheFullQuay();
        noSuchOrder();
        oneOfEach();
        nothingOfAnEmptyQuay();
        allDebts();
        lotsOfOne();
        wouldBeAsAllIsNow();
        timesOfAnOrder();
        owesNoSuchMerchant();
        chainOf0To5();
        chainByDebtsOf1();
        chainAtTheFewest();
        ringOf2To6();
        ringOfNone();
        ringByTheLeastDebt();
        ringOfTheGreatest();
        Due.end();
    }

    private static void countsOfTheFullQuay() {
        SpiceQuay quay = Due.quay(Due.fullList());
        int[] counts = {0, 3, 4, 4, 6, 10, 24, 90000, 0, 59994, 0, 0, 0, 0};
        for (int what = 0; what <= 13; what++) {
            Due.is("count " + what, quay.count(what), counts[what]);
        }
    }

    /** "Throws IndexOutOfBoundsException if what is not 0 to 13" */
    private static void countsFrom0To13() {
        for (String text : new String[] {"", Due.fullList()}) {
            SpiceQuay quay = Due.quay(text);
            for (int what : FAR) {
                Due.refusesIndex(quay, "count " + what, () -> quay.count(what));
            }
            Due.is("count 0", quay.count(0), 0);
            Due.is("count 13", quay.count(13), 0);
            Due.refusesIndex(quay, "count 14", () -> quay.count(14));
            Due.refusesIndex(quay, "count 15", () -> quay.count(15));
        }
    }

    /** "13 bytes of the tape" */
    private static void bytesOfTheTape() {
        SpiceQuay quay = new SpiceQuay();
        for (int i = 0; i < 100; i++) {
            Due.is("bytes", quay.count(13), 20 * i);
            quay.feed(0, 0, 0, 0, 0);
        }
        Due.is("of the full tape", quay.count(13), 2000);
        quay.trim(1);
        Due.is("one", quay.count(13), 1);
        quay.teach();
        Due.is("none", quay.count(13), 0);
    }

    private static void lotsOfTheFullQuay() {
        SpiceQuay quay = Due.quay(Due.fullList());
        for (int lot = 0; lot < 10; lot++) {
            int[] want = {lot % 4, 9000, lot % 6, -1, 0, 0, 0};
            for (int what = 0; what <= 6; what++) {
                Due.is("lot " + lot + " " + what, quay.lot(lot, what), want[what]);
            }
        }
    }

    /** "if there is no such lot, or what is not 0 to 6" */
    private static void noSuchLot() {
        SpiceQuay quay = Due.quay(Due.fullList());
        for (int far : FAR) {
            Due.refusesIndex(quay, "lot " + far, () -> quay.lot(far, 0));
            Due.refusesIndex(quay, "lot 9 " + far, () -> quay.lot(9, far));
            Due.refusesIndex(quay, "lot far and far", () -> quay.lot(far, far));
        }
        Due.refusesIndex(quay, "lot 10", () -> quay.lot(10, 0));
        Due.refusesIndex(quay, "lot 0 7", () -> quay.lot(0, 7));
        Due.refusesIndex(quay, "lot 9 7", () -> quay.lot(9, 7));
        Due.refusesIndex(quay, "lot 10 7", () -> quay.lot(10, 7));
        Due.is("lot 9 6", quay.lot(9, 6), 0);
    }

    private static void merchantsOfTheFullQuay() {
        SpiceQuay quay = Due.quay(Due.fullList());
        for (int merchant = 0; merchant < 6; merchant++) {
            int lots = merchant < 4 ? 2 : 1;
            int[] want = {9999, 9999, 0, 0, lots, 9000 * lots};
            for (int what = 0; what <= 5; what++) {
                Due.is("merchant " + merchant + " " + what, quay.merchant(merchant, what), want[what]);
            }
        }
    }

    /** "if there is no such merchant, or what is not 0 to 5" */
    private static void noSuchMerchant() {
        SpiceQuay quay = Due.quay(Due.fullList());
        for (int far : FAR) {
            Due.refusesIndex(quay, "merchant " + far, () -> quay.merchant(far, 0));
            Due.refusesIndex(quay, "merchant 5 " + far, () -> quay.merchant(5, far));
            Due.refusesIndex(quay, "merchant far and far", () -> quay.merchant(far, far));
        }
        Due.refusesIndex(quay, "merchant 6", () -> quay.merchant(6, 0));
        Due.refusesIndex(quay, "merchant 0 6", () -> quay.merchant(0, 6));
        Due.refusesIndex(quay, "merchant 5 6", () -> quay.merchant(5, 6));
        Due.refusesIndex(quay, "merchant 6 6", () -> quay.merchant(6, 6));
        Due.is("merchant 5 5", quay.merchant(5, 5), 9000);
    }

    private static void guildsOfTheFullQuay() {
        SpiceQuay quay = Due.quay(Due.fullList());
        for (int guild = 0; guild < 4; guild++) {
            int[] want = {33 * guild, 5 * guild, 0, 0};
            for (int what = 0; what <= 3; what++) {
                Due.is("guild " + guild + " " + what, quay.guild(guild, what), want[what]);
            }
        }
        quay.pass(1);
        for (int guild = 0; guild < 4; guild++) {
            Due.is("earned by " + guild, quay.guild(guild, 2), 2 * 33 * guild);
            Due.is("bear the chop of " + guild, quay.guild(guild, 3), 2);
        }
    }

    /** "if there is no such guild, or what is not 0 to 3" */
    private static void noSuchGuild() {
        SpiceQuay quay = Due.quay(Due.fullList());
        for (int far : FAR) {
            Due.refusesIndex(quay, "guild " + far, () -> quay.guild(far, 0));
            Due.refusesIndex(quay, "guild 3 " + far, () -> quay.guild(3, far));
            Due.refusesIndex(quay, "guild far and far", () -> quay.guild(far, far));
        }
        Due.refusesIndex(quay, "guild 4", () -> quay.guild(4, 0));
        Due.refusesIndex(quay, "guild 0 4", () -> quay.guild(0, 4));
        Due.refusesIndex(quay, "guild 3 4", () -> quay.guild(3, 4));
        Due.refusesIndex(quay, "guild 4 4", () -> quay.guild(4, 4));
        Due.is("guild 3 3", quay.guild(3, 3), 0);
    }

    /** "0 for weigh, 1 for sell, 2 for pay, 1 its lot, for pay the one who pays, 2 its guild, buyer or the one who is paid" */
    private static void ordersOfTheFullQuay() {
        SpiceQuay quay = Due.quay(Due.fullList());
        for (int i = 0; i < 8; i++) {
            int[][] want = {{0, i, i % 4, 1, 0}, {1, i, (i + 2) % 6, 0, 0}, {2, i % 6, (i + 1) % 6, 0, 0}};
            for (int order = 0; order < 3; order++) {
                for (int what = 0; what <= 4; what++) {
                    Due.is("order " + (3 * i + order) + " " + what, quay.order(3 * i + order, what), want[order][what]);
                }
            }
        }
    }

    /** "if there is no such order, or what is not 0 to 4" */
    private static void noSuchOrder() {
        SpiceQuay quay = Due.quay(Due.fullList());
        for (int far : FAR) {
            Due.refusesIndex(quay, "order " + far, () -> quay.order(far, 0));
            Due.refusesIndex(quay, "order 23 " + far, () -> quay.order(23, far));
            Due.refusesIndex(quay, "order far and far", () -> quay.order(far, far));
        }
        Due.refusesIndex(quay, "order 24", () -> quay.order(24, 0));
        Due.refusesIndex(quay, "order 0 5", () -> quay.order(0, 5));
        Due.refusesIndex(quay, "order 23 5", () -> quay.order(23, 5));
        Due.refusesIndex(quay, "order 24 5", () -> quay.order(24, 5));
        Due.is("order 23 4", quay.order(23, 4), 0);
    }

    private static void oneOfEach() {
        SpiceQuay quay = Due.quay("spice s loss 7;guild g fee 3 bias 20;merchant m coins 5 credit 6;lot l of s sacks 1 for m;"
                + "weigh l by g;");
        Due.is("lot", quay.lot(0, 1), 100);
        Due.refusesIndex(quay, "lot 1", () -> quay.lot(1, 1));
        Due.is("merchant", quay.merchant(0, 1), 6);
        Due.refusesIndex(quay, "merchant 1", () -> quay.merchant(1, 1));
        Due.is("guild", quay.guild(0, 1), 20);
        Due.refusesIndex(quay, "guild 1", () -> quay.guild(1, 1));
        Due.is("order", quay.order(0, 1), 0);
        Due.refusesIndex(quay, "order 1", () -> quay.order(1, 1));
        Due.is("owes", quay.owes(0, 0), 0);
        Due.refusesIndex(quay, "owes 1", () -> quay.owes(0, 1));
        Due.is("chain", quay.chain(0, 0), 0);
        Due.refusesIndex(quay, "chain 1", () -> quay.chain(1, 0));
        Due.is("ring", quay.ring(0), 0);
        Due.refusesIndex(quay, "ring 1", () -> quay.ring(1));
    }

    private static void nothingOfAnEmptyQuay() {
        SpiceQuay quay = new SpiceQuay();
        for (int i : new int[] {0, 1, -1}) {
            Due.refusesIndex(quay, "lot", () -> quay.lot(i, 0));
            Due.refusesIndex(quay, "merchant", () -> quay.merchant(i, 0));
            Due.refusesIndex(quay, "guild", () -> quay.guild(i, 0));
            Due.refusesIndex(quay, "order", () -> quay.order(i, 0));
            Due.refusesIndex(quay, "owes", () -> quay.owes(i, i));
            Due.refusesIndex(quay, "chain", () -> quay.chain(i, i));
            Due.refusesIndex(quay, "ring", () -> quay.ring(i));
        }
    }

    private static SpiceQuay six() {
        StringBuilder text = new StringBuilder();
        for (int i = 0; i < 6; i++) {
            text.append("merchant m" + i + " coins 9999 credit 9999;");
        }
        return Due.quay(text.toString());
    }

    /** Of six merchants each owes each other one another number. */
    private static void allDebts() {
        SpiceQuay quay = six();
        for (int a = 0; a < 6; a++) {
            for (int b = 0; b < 6; b++) {
                if (a != b) {
                    Due.is("lend", quay.lend(b, a, 100 * a + 10 * b + 1), 100 * a + 10 * b + 1);
                }
            }
        }
        int all = 0;
        for (int a = 0; a < 6; a++) {
            int owes = 0;
            int owed = 0;
            for (int b = 0; b < 6; b++) {
                int due = a == b ? 0 : 100 * a + 10 * b + 1;
                Due.is("owes " + a + " " + b, quay.owes(a, b), due);
                Due.is("chain " + a + " " + b, quay.chain(a, b), a == b ? 0 : 1);
                owes += due;
                owed += a == b ? 0 : 100 * b + 10 * a + 1;
            }
            Due.is("debts of " + a, quay.merchant(a, 2), owes);
            Due.is("owed to " + a, quay.merchant(a, 3), owed);
            Due.is("coins of " + a, quay.merchant(a, 0), 9999 + owes - owed);
            all += owes;
        }
        Due.is("all that is owed", quay.count(8), all);
        Due.is("coins stay", quay.count(9), 59994);
    }

    /** "4 lots that belong to this one, 5 their weight, added" */
    private static void lotsOfOne() {
        StringBuilder text = new StringBuilder("spice s loss 0;merchant m coins 0 credit 0;merchant n coins 0 credit 0;");
        for (int i = 1; i <= 10; i++) {
            text.append("lot l" + i + " of s sacks " + i + " for n;");
        }
        SpiceQuay quay = Due.quay(text.toString());
        Due.is("no lots", quay.merchant(0, 4), 0);
        Due.is("no weight", quay.merchant(0, 5), 0);
        Due.is("all lots", quay.merchant(1, 4), 10);
        Due.is("all weight", quay.merchant(1, 5), 5500);
        quay.dry(9);
        Due.is("less weight", quay.merchant(1, 5), 5400);
        Due.is("as many lots", quay.merchant(1, 4), 10);
    }

    /** "1 if it would be carried out now, as all is now, on this day, without step 1 and the orders ahead of it" */
    private static void wouldBeAsAllIsNow() {
        SpiceQuay quay = Due.quay("spice s loss 9;guild g fee 5 bias 0;merchant m coins 10 credit 0;merchant n coins 50 credit 0;"
                + "lot l of s sacks 1 for m;lot k of s sacks 1 for m;"
                + "weigh l by g;weigh k by g;weigh l by g;sell l to n sum 50;"
                + "weigh l by g when weight l = 100;weigh l by g when weight l < 100;weigh l by g when day = 0;"
                + "weigh l by g when day = 1;weigh l by g when coins m < 10;");
        quay.setDamp(9);
        int[] now = {1, 1, 1, 0, 1, 0, 1, 0, 0};
        for (int order = 0; order < 9; order++) {
            Due.is("order " + order + " now", quay.order(order, 3), now[order]);
        }
        for (int i = 0; i < 3; i++) {
            Due.is("nothing is done by asking", quay.order(0, 3), 1);
        }
        Due.is("weighed", quay.count(11), 0);
        // both fees are paid, and the third one is not there; sold for 46, of which a fee is paid by the buyer's 4 not
        Due.is("orders", quay.pass(1), 3);
        int[] then = {0, 1, 0, 0, 0, 0, 0, 0, 0};
        for (int order = 0; order < 9; order++) {
            Due.is("order " + order + " then", quay.order(order, 3), then[order]);
        }
    }

    /** "4 how often it was carried out" */
    private static void timesOfAnOrder() {
        SpiceQuay quay = Due.quay("spice s loss 0;guild g fee 1 bias 0;merchant m coins 3 credit 0;lot l of s sacks 1 for m;"
                + "weigh l by g;weigh l by g when day < 0;");
        for (int day = 0; day < 6; day++) {
            Due.is("times", quay.order(0, 4), Math.min(day, 3));
            Due.is("never", quay.order(1, 4), 0);
            quay.pass(1);
        }
    }

    /** "if there is no such merchant": the one, the other one, or both. */
    private static void owesNoSuchMerchant() {
        SpiceQuay quay = six();
        for (int far : new int[] {-1, 6, 7, Integer.MIN_VALUE, Integer.MAX_VALUE}) {
            Due.refusesIndex(quay, "owes a", () -> quay.owes(far, 5));
            Due.refusesIndex(quay, "owes b", () -> quay.owes(5, far));
            Due.refusesIndex(quay, "owes both", () -> quay.owes(far, far));
            Due.refusesIndex(quay, "chain a", () -> quay.chain(far, 5));
            Due.refusesIndex(quay, "chain b", () -> quay.chain(5, far));
            Due.refusesIndex(quay, "chain both", () -> quay.chain(far, far));
            Due.refusesIndex(quay, "ring", () -> quay.ring(far));
        }
        Due.is("owes 5 5", quay.owes(5, 5), 0);
        Due.is("chain 5 5", quay.chain(5, 5), 0);
        Due.is("ring 5", quay.ring(5), 0);
    }

    /** "0, if both are the same; -1 if by none", and five debts are the most that there can be. */
    private static void chainOf0To5() {
        int[] way = {3, 0, 5, 1, 4, 2};
        SpiceQuay quay = six();
        for (int i = 0; i + 1 < 6; i++) {
            quay.lend(way[i + 1], way[i], 1 + i);
        }
        for (int i = 0; i < 6; i++) {
            for (int k = 0; k < 6; k++) {
                Due.is("chain " + way[i] + " " + way[k], quay.chain(way[i], way[k]), k >= i ? k - i : -1);
            }
            Due.is("no ring", quay.ring(way[i]), 0);
        }
    }

    /** "1 if this one owes that one": 1 coin is a debt, and what is set off is none. */
    private static void chainByDebtsOf1() {
        SpiceQuay quay = six();
        Due.is("nobody owes", quay.chain(0, 1), -1);
        quay.lend(1, 0, 1);
        Due.is("1 is owed", quay.chain(0, 1), 1);
        Due.is("not the other way", quay.chain(1, 0), -1);
        quay.lend(0, 1, 2);
        Due.is("2 are owed the other way", quay.chain(1, 0), 1);
        quay.offset(0, 1);
        Due.is("nothing is owed any more", quay.chain(0, 1), -1);
        Due.is("1 is owed the other way", quay.chain(1, 0), 1);
        quay.lend(1, 0, 1);
        quay.offset(1, 0);
        Due.is("nobody owes any more", quay.chain(1, 0), -1);
        Due.is("to oneself", quay.chain(1, 1), 0);
    }

    /** "at the fewest" */
    private static void chainAtTheFewest() {
        SpiceQuay quay = six();
        int[][] debts = {{0, 1}, {1, 2}, {2, 3}, {3, 4}, {4, 5}, {5, 0}};
        for (int[] debt : debts) {
            quay.lend(debt[1], debt[0], 9);
        }
        for (int a = 0; a < 6; a++) {
            for (int b = 0; b < 6; b++) {
                Due.is("round from " + a + " to " + b, quay.chain(a, b), (b - a + 6) % 6);
            }
        }
        quay.lend(4, 0, 1);
        Due.is("0 owes 4", quay.chain(0, 4), 1);
        Due.is("0 owes 5 by way of 4", quay.chain(0, 5), 2);
        Due.is("5 owes 4 by way of 0", quay.chain(5, 4), 2);
        Due.is("0 owes 3 as before", quay.chain(0, 3), 3);
        quay.lend(2, 0, 1);
        Due.is("0 owes 3 by way of 2", quay.chain(0, 3), 2);
    }

    /** "along one ring of debts from this one back to this one, of 2 debts or more" */
    private static void ringOf2To6() {
        int[] way = {4, 1, 3, 0, 5, 2};
        for (int size = 2; size <= 6; size++) {
            SpiceQuay quay = six();
            for (int i = 0; i < size; i++) {
                Due.is("not closed yet", quay.ring(way[0]), 0);
                quay.lend(way[(i + 1) % size], way[i], 10 + i);
            }
            for (int i = 0; i < 6; i++) {
                Due.is("ring of " + size + " at " + way[i], quay.ring(way[i]), i < size ? 10 : 0);
            }
        }
    }

    /** "0 if there is none": one may owe those in a ring, or be owed by them, and be in none. */
    private static void ringOfNone() {
        SpiceQuay quay = six();
        quay.lend(2, 1, 50);
        quay.lend(1, 2, 60);
        quay.lend(1, 0, 70);
        quay.lend(3, 2, 80);
        quay.lend(4, 3, 90);
        int[] rings = {0, 50, 50, 0, 0, 0};
        for (int merchant = 0; merchant < 6; merchant++) {
            Due.is("ring at " + merchant, quay.ring(merchant), rings[merchant]);
        }
        quay.offset(1, 2);
        Due.is("set off", quay.ring(1), 0);
    }

    /** "their least debts", wherever in the ring the least one is. */
    private static void ringByTheLeastDebt() {
        for (int least = 0; least < 4; least++) {
            SpiceQuay quay = six();
            for (int i = 0; i < 4; i++) {
                quay.lend((i + 1) % 4, i, i == least ? 1 : 20 + i);
            }
            for (int i = 0; i < 4; i++) {
                Due.is("1 is the least one, at " + i, quay.ring(i), 1);
            }
        }
    }

    /** "of all such rings the greatest", be it the shorter or the longer one. */
    private static void ringOfTheGreatest() {
        for (int two = 9; two <= 11; two++) {
            SpiceQuay quay = six();
            quay.lend(1, 0, 30);
            quay.lend(0, 1, two);
            quay.lend(2, 1, 10);
            quay.lend(0, 2, 30);
            Due.is("2 or 3 debts, with " + two, quay.ring(0), Math.max(two, 10));
            Due.is("at the second one", quay.ring(1), Math.max(two, 10));
            Due.is("at the third one", quay.ring(2), 10);
        }
        // not the two greatest parts of two rings: each of both has one debt of 5 or less
        SpiceQuay quay = six();
        quay.lend(1, 0, 90);
        quay.lend(0, 1, 4);
        quay.lend(2, 0, 5);
        quay.lend(0, 2, 80);
        Due.is("each has a small one", quay.ring(0), 5);
        quay.lend(2, 1, 70);
        Due.is("by way of both", quay.ring(0), 70);
        Due.is("the same at the third one", quay.ring(2), 70);
    }
}
