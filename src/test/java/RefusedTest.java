/** "A method that throws an exception changes nothing.": of two quays that are used alike, one refuses calls in between. */
public final class RefusedTest {
    private static final String SMALL = "spice s loss 5;guild g fee 2 bias 10;merchant m coins 90 credit 80;"
            + "merchant n coins 9 credit 300;lot l of s sacks 3 for m;weigh l by g when day < 9;sell l to n sum 10 when day = 3;"
            + "pay n to m sum 2;sell l to m sum 4 when day = 5 and coins m > 3;";

    public static void main(String[] args) {
        for (String text : new String[] {"", SMALL, Due.fullList()}) {
            alike(text, "days", RefusedTest::refuseDays);
            alike(text, "tape", RefusedTest::refuseTape);
            alike(text, "telling", RefusedTest::refuseTelling);
            alike(text, "hand", RefusedTest::refuseByHand);
            alike(text, "ahead", RefusedTest::refuseAhead);
        }
        Due.end();
    }

    interface Refusals {
        void on(SpiceQuay quay);
    }

    private static void alike(String text, String sort, Refusals refusals) {
        SpiceQuay quay = Due.quay(text);
        SpiceQuay twin = Due.quay(text);
        for (int turn = 0; turn < 6; turn++) {
            refusals.on(quay);
            String where = sort + ", turn " + turn;
            Due.is(where + ": pass", quay.pass(1 + turn), twin.pass(1 + turn));
            Due.is(where + ": digest", quay.digest(), twin.digest());
            Due.is(where + ": errorAt", quay.errorAt(), twin.errorAt());
            Due.is(where + ": feed", quay.feed(turn, 2, 3, 4, 5), twin.feed(turn, 2, 3, 4, 5));
            if (turn == 1 && quay.count(4) > 1) {
                Due.is(where + ": lend", quay.lend(0, 1, 40), twin.lend(0, 1, 40));
            }
            if (turn == 3) {
                Due.is(where + ": setDamp", quay.setDamp(8), twin.setDamp(8));
                Due.is(where + ": trim", quay.trim(1), twin.trim(1));
            }
            if (turn == 4) {
                Due.is(where + ": teach", quay.teach(), twin.teach());
            }
        }
        refusals.on(quay);
        Due.is(sort + ": the list anew", Due.teach(quay, text), Due.teach(twin, text));
        Due.is(sort + ": digest", quay.digest(), twin.digest());
    }

    private static void refuseDays(SpiceQuay quay) {
        for (int days : new int[] {0, -1, 121, Integer.MIN_VALUE, Integer.MAX_VALUE}) {
            Due.argument("pass " + days, () -> quay.pass(days));
        }
    }

    private static void refuseTape(SpiceQuay quay) {
        int bytes = quay.count(13);
        Due.argument("trim -1", () -> quay.trim(-1));
        Due.argument("trim to more", () -> quay.trim(bytes + 1));
        Due.argument("trim to the most", () -> quay.trim(Integer.MAX_VALUE));
    }

    private static void refuseTelling(SpiceQuay quay) {
        int lots = quay.count(5);
        int merchants = quay.count(4);
        int guilds = quay.count(3);
        int orders = quay.count(6);
        Due.index("count 14", () -> quay.count(14));
        Due.index("count -1", () -> quay.count(-1));
        Due.index("lot", () -> quay.lot(lots, 0));
        Due.index("lot what", () -> quay.lot(lots - 1, 7));
        Due.index("merchant", () -> quay.merchant(merchants, 0));
        Due.index("merchant what", () -> quay.merchant(merchants - 1, 6));
        Due.index("guild", () -> quay.guild(guilds, 0));
        Due.index("guild what", () -> quay.guild(guilds - 1, 4));
        Due.index("order", () -> quay.order(orders, 3));
        Due.index("order what", () -> quay.order(orders - 1, 5));
        Due.index("owes", () -> quay.owes(merchants, merchants));
        Due.index("chain", () -> quay.chain(0, merchants));
        Due.index("ring", () -> quay.ring(merchants));
    }

    private static void refuseByHand(SpiceQuay quay) {
        int merchants = quay.count(4);
        Due.argument("setDamp -1", () -> quay.setDamp(-1));
        Due.argument("setDamp 10", () -> quay.setDamp(10));
        Due.index("lend", () -> quay.lend(merchants, 0, 1));
        Due.index("lend", () -> quay.lend(0, merchants, 1));
        Due.index("offset", () -> quay.offset(merchants, 0));
        Due.index("offset", () -> quay.offset(-1, -1));
        int lots = quay.count(5);
        Due.index("dry", () -> quay.dry(lots));
        Due.index("dry", () -> quay.dry(-1));
        if (merchants > 1) {
            Due.argument("lend oneself", () -> quay.lend(1, 1, 1));
            Due.argument("lend 0", () -> quay.lend(0, 1, 0));
            Due.argument("lend 10000", () -> quay.lend(0, 1, 10000));
            Due.argument("offset oneself", () -> quay.offset(1, 1));
            int coins = quay.merchant(0, 0);
            if (coins < 9999) {
                Due.state("lend one more than there is", () -> quay.lend(0, 1, coins + 1));
            }
            int free = quay.merchant(0, 1) - quay.merchant(0, 2);
            if (free < 9999) {
                Due.state("lend beyond the credit", () -> quay.lend(1, 0, Math.max(0, free) + 1));
            }
        }
    }

    private static void refuseAhead(SpiceQuay quay) {
        int merchants = quay.count(4);
        Due.argument("foresee 0", () -> quay.foresee(0, 0));
        Due.argument("foresee 121 1", () -> quay.foresee(121, 1));
        Due.index("foresee 120 1", () -> quay.foresee(120, 1));
        Due.index("foresee 120 13", () -> quay.foresee(120, 13));
        Due.argument("costs 0", () -> quay.costs(0, 9));
        Due.argument("costs 91", () -> quay.costs(91, 9));
        Due.argument("costs 90 10", () -> quay.costs(90, 10));
        Due.argument("costs 90 -1", () -> quay.costs(90, -1));
        Due.argument("richest 0", () -> quay.richest(0));
        Due.argument("richest 91", () -> quay.richest(91));
        Due.index("until", () -> quay.until(merchants));
        Due.index("until -1", () -> quay.until(-1));
    }
}
