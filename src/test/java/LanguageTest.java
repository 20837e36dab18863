/** Promises 1 to 5: a new object, the tape, and what a list may be. */
public final class LanguageTest {
    private static final String QUAY = "spice s loss 5;guild g fee 2 bias 10;merchant m coins 9 credit 8;"
            + "lot l of s sacks 3 for m;";
    private static final String TEST = QUAY + "weigh l by g when ";

    public static void main(String[] args) {
        newObject();
        feed();
        trim();
        teach();
        tokens();
        bytesBehindTheEnd();
        grammar();
        depth();
        manyTokens();
        names();
        tooMany();
        ranges();
        firstErrorCounts();
        teachAnew();
        errorStaysOut();
        errorAt();
        Due.end();
    }

    private static void newObject() {
        SpiceQuay quay = new SpiceQuay();
        for (int what = 0; what <= 13; what++) {
            Due.is("new count " + what, quay.count(what), what == 1 ? 3 : 0);
        }
        Due.index("new lot", () -> quay.lot(0, 0));
        Due.index("new merchant", () -> quay.merchant(0, 0));
        Due.index("new guild", () -> quay.guild(0, 0));
        Due.index("new order", () -> quay.order(0, 0));
        Due.index("new owes", () -> quay.owes(0, 0));
        Due.index("new until", () -> quay.until(0));
        Due.is("new errorAt", quay.errorAt(), -1);
        Due.is("new richest", quay.richest(1), -1);
        Due.isDouble("new mean", quay.mean(), 0);
    }

    private static void feed() {
        SpiceQuay quay = new SpiceQuay();
        Due.is("feed", quay.feed(0x73706963, 0x65207320, 0x6c6f7373, 0x20393b0a, 0x20202020), 20);
        Due.is("bytes", quay.count(13), 20);
        Due.is("teach of what was fed", quay.teach(), 0);
        Due.is("spices", quay.count(2), 1);
        for (int i = 1; i <= 100; i++) {
            Due.is("feed " + i, quay.feed(i, -1, 0, 32, 1 << 31), 20 * i);
        }
        Due.state("feed beyond 2000", () -> quay.feed(1, 2, 3, 4, 5));
        Due.is("bytes", quay.count(13), 2000);
        quay.trim(1981);
        Due.state("feed to 2001", () -> quay.feed(1, 2, 3, 4, 5));
        Due.is("bytes", quay.count(13), 1981);
        quay.trim(1980);
        Due.is("feed to 2000", quay.feed(1, 2, 3, 4, 5), 2000);
    }

    private static void trim() {
        SpiceQuay quay = new SpiceQuay();
        Due.is("trim(0)", quay.trim(0), 0);
        Due.argument("trim(1) of nothing", () -> quay.trim(1));
        quay.feed(0, 0, 0, 0, 0);
        Due.is("trim(20)", quay.trim(20), 20);
        Due.argument("trim(21)", () -> quay.trim(21));
        Due.argument("trim(-1)", () -> quay.trim(-1));
        Due.argument("trim(least)", () -> quay.trim(Integer.MIN_VALUE));
        Due.is("trim(7)", quay.trim(7), 7);
        Due.is("bytes", quay.count(13), 7);
        Due.argument("trim(8)", () -> quay.trim(8));
        Due.is("feed", quay.feed(0, 0, 0, 0, 0), 27);
    }

    private static void teach() {
        SpiceQuay quay = Due.quay("");
        Due.is("merchants", quay.count(4), 0);
        Due.teach(quay, QUAY + "sell l to m sum 1; pay m to m sum 2; weigh l by g;");
        Due.is("tape behind teach", quay.count(13), 0);
        int[] counts = {0, 3, 1, 1, 1, 1, 3, 300, 0, 9, 0, 0, 0, 0};
        for (int what = 0; what < counts.length; what++) {
            Due.is("count " + what, quay.count(what), counts[what]);
        }
        Due.error(" \n ", 0, -1);
    }

    private static void tokens() {
        Due.error("spice abcdefghij loss 5;", 0, -1);
        Due.error("spice abcdefghijk loss 5;", 1, 6);
        Due.error("spice a1b2 loss 000005;", 0, -1);
        Due.error("spice a loss 0000005;", 1, 13);
        Due.error("spice a loss 99999999999999999999999;", 1, 13);
        Due.error("spice a\nloss\n\n5 \n;\n", 0, -1);
        Due.error("spice\ta loss 5;", 1, 5);
        Due.error("spice A loss 5;", 1, 6);
        Due.error("spice a loss 5;\r", 1, 15);
        Due.error("spice a loss 5;\0", 1, 15);
        Due.error("spice \u00e9 loss 5;", 1, 6);
        Due.error("spice \u00ff loss 5;", 1, 6);
        Due.error("spicea loss 5;", 1, 0);
        Due.error("spice a loss5;", 1, 8);
        Due.error("spice a loss 5x;", 1, 14);
        Due.error("merchant m coins 5credit 6;", 0, -1);
        Due.error("spice 5 loss 5;", 1, 6);
        Due.error("spice s_t loss 5;", 1, 7);
        Due.error(TEST + "1<=2;", 0, -1);
        Due.error(TEST + "1< =2;", 1, TEST.length() + 3);
        Due.error(TEST + "1>=2;", 0, -1);
        Due.error(TEST + "1=>2;", 1, TEST.length() + 2);
        Due.error(TEST + "1=<2;", 1, TEST.length() + 2);
        Due.error(TEST + "1<>2;", 1, TEST.length() + 2);
        Due.error(TEST + "1==2;", 1, TEST.length() + 2);
        Due.error(TEST + "1<", 1, TEST.length() + 2);
        Due.error(TEST + "1<=", 1, TEST.length() + 3);
        Due.error(TEST + "1>=", 1, TEST.length() + 3);
        for (String word : ("spice loss guild fee bias merchant coins credit lot of sacks for weigh by sell to"
                + " pay sum when day damp weight chop age debts owes owns not and or min max").split(" ")) {
            Due.error("spice " + word + " loss 5;", 1, 6);
            Due.error("spice " + word + "1 loss 5;", 0, -1);
            Due.error("spice x" + word + " loss 5;", 0, -1);
        }
    }

    /** What was cut off the tape is no part of it any more. */
    private static void bytesBehindTheEnd() {
        cut("spice s loss 5;", "     ", 0, -1);
        cut("spice s loss 5;", "spice", 0, -1);
        cut("spice s loss 5", ";    ", 1, 14);
        cut("spice s loss 5", "5;   ", 1, 14);
        cut("spice s loss 123456", "7;   ", 1, 19);
        cut("spice abcdefghij", "k    ", 1, 16);
        cut("spice s", "     ", 1, 7);
        cut("spice s ", "     ", 1, 8);
        cut(TEST + "1<", "=2;  ", 1, TEST.length() + 2);
        cut(TEST + "1=2 and 1>", "=2;  ", 1, TEST.length() + 10);
        cut(TEST + "1<2<", "=    ", 1, TEST.length() + 3);
    }

    private static void cut(String text, String rest, int error, int place) {
        SpiceQuay quay = new SpiceQuay();
        Due.tape(quay, text + rest);
        quay.trim(text.length());
        Due.is("teach of <" + text + "> without <" + rest + ">", quay.teach(), error);
        Due.is("errorAt of <" + text + "> without <" + rest + ">", quay.errorAt(), place);
    }

    private static void grammar() {
        Due.error(";", 1, 0);
        Due.error("spice", 1, 5);
        Due.error("spice a loss 5", 1, 14);
        Due.error("spice a loss 5  ", 1, 16);
        Due.error("spice a loss 5;;", 1, 15);
        Due.error("spice a loss -5;", 1, 13);
        Due.error("guild g bias 5 fee 5;", 1, 8);
        Due.error("guild g fee 5;", 1, 13);
        Due.error("merchant m coins 5;", 1, 18);
        Due.error("lot l of s for m;", 1, 11);
        Due.error(QUAY + "weigh l by g sum 5;", 1, QUAY.length() + 13);
        Due.error(QUAY + "sell l by m sum 5;", 1, QUAY.length() + 7);
        Due.error(QUAY + "sell l to m;", 1, QUAY.length() + 11);
        Due.error(QUAY + "pay m to m sum;", 1, QUAY.length() + 14);
        Due.error(QUAY + "pay m to m sum 1 2;", 1, QUAY.length() + 17);
        Due.error(QUAY + "pay m to m sum 1 + ;", 1, QUAY.length() + 19);
        Due.error(QUAY + "pay m to m sum 1 + + 1;", 1, QUAY.length() + 19);
        Due.error(QUAY + "pay m to m sum [1];", 1, QUAY.length() + 15);
        Due.error(QUAY + "pay m to m sum (1;", 1, QUAY.length() + 17);
        Due.error(QUAY + "pay m to m sum 1);", 1, QUAY.length() + 16);
        Due.error(QUAY + "pay m to m sum min(1);", 1, QUAY.length() + 20);
        Due.error(QUAY + "pay m to m sum min 1;", 1, QUAY.length() + 19);
        Due.error(QUAY + "pay m to m sum max(1,2,3);", 1, QUAY.length() + 22);
        Due.error(QUAY + "pay m to m sum m;", 1, QUAY.length() + 15);
        Due.error(QUAY + "pay m to m sum owes m;", 1, QUAY.length() + 21);
        Due.error(QUAY + "pay m to m sum weight 5;", 1, QUAY.length() + 22);
        Due.error(QUAY + "pay m to m sum 1-2*(3/day)-damp+weight l*chop l-age l+coins m-debts m+owes m m--1;", 0, -1);
        Due.error(QUAY + "pay m to m sum max(min(1,2),-(3)) when 1<2;", 0, -1);
        Due.error(TEST + "1;", 1, TEST.length() + 1);
        Due.error(TEST + "1<2<3;", 1, TEST.length() + 3);
        Due.error(TEST + "(1<2);", 1, TEST.length() + 2);
        Due.error(TEST + "[1]<2;", 1, TEST.length() + 2);
        Due.error(TEST + "not 1<2 and [owns m l or not not 1=2] and (1)>(2);", 0, -1);
        Due.error(TEST + "1<2 or;", 1, TEST.length() + 6);
        Due.error(TEST + "1<2 and not;", 1, TEST.length() + 11);
        Due.error(TEST + "owns m;", 1, TEST.length() + 6);
        Due.error(TEST + "owns m l < 2;", 1, TEST.length() + 9);
        Due.error(TEST + "[1<2;", 1, TEST.length() + 4);
        Due.error(QUAY + "weigh l by g when;", 1, QUAY.length() + 17);
        Due.error(QUAY + "weigh l by g when 1<2 when 1<2;", 1, QUAY.length() + 22);
    }

    private static void depth() {
        String pay = QUAY + "pay m to m sum ";
        int at = pay.length();
        Due.error(pay + "((((((((1))))))));", 0, -1);
        Due.error(pay + "(((((((((1)))))))));", 1, at + 8);
        Due.error(pay + "--------1;", 0, -1);
        Due.error(pay + "---------1;", 1, at + 8);
        Due.error(pay + "-(-(-(-(1)))) - -(1) - 1 - 2;", 0, -1);
        Due.error(pay + "-(-(-(-(-1))));", 1, at + 8);
        Due.error(pay + "((((((((1)))))))) + ((((((((day))))))));", 0, -1);
        Due.error(pay + "-------min(1,2);", 0, -1);
        Due.error(pay + "--------min(1,2);", 1, at + 11);
        Due.error(pay + "--------min 1;", 1, at + 12);
        Due.error(pay + "min(min(min(min(min(min(min(min(1,2),2),2),2),2),2),2),2);", 0, -1);
        Due.error(pay + "max(1,max(1,max(1,max(1,max(1,max(1,max(1,max(1,max(1,2)))))))));", 1, at + 51);
        Due.error(TEST + "[[[[[[[[1<2]]]]]]]];", 0, -1);
        Due.error(TEST + "[[[[[[[[[1<2]]]]]]]]];", 1, TEST.length() + 8);
        Due.error(TEST + "not not not not not not not not 1<2;", 0, -1);
        Due.error(TEST + "not not not not not not not not not 1<2;", 1, TEST.length() + 32);
        Due.error(TEST + "not [not [not [not [1 < 2]]]] and not [1<2];", 0, -1);
        Due.error(TEST + "not [not [not [not [1 < -2]]]];", 1, TEST.length() + 24);
        Due.error(TEST + "not [not [not [not [(1) < 2]]]];", 1, TEST.length() + 20);
        Due.error(TEST + "not [not [not [-(1) < 2 and [1<2]]]] and 1<2;", 0, -1);
    }

    /** TEST has 33 tokens. */
    private static void manyTokens() {
        String odd = TEST + "1=-1" + "+1".repeat(181);
        Due.error(odd + ";", 0, -1);
        Due.error(odd + "; \n", 0, -1);
        Due.error(odd + "; spice", 1, odd.length() + 2);
        Due.error(odd + ";\n ?", 1, odd.length() + 3);
        Due.error(odd + "+ 1;", 1, odd.length() + 2);
        Due.error(odd + ";;", 1, odd.length() + 1);
        String even = TEST + "1=1" + "+1".repeat(182);
        Due.error(even + "  ;", 1, even.length() + 2);
        Due.error(even + " ", 1, even.length() + 1);
        Due.error("spice s loss 99;" + even.substring(15) + ";", 1, even.length() + 1);
    }

    private static void names() {
        Due.error("spice a loss 1; spice a loss 1;", 2, 22);
        Due.error("guild a fee 1 bias 1; guild a fee 1 bias 1;", 2, 28);
        Due.error("merchant a coins 1 credit 1; merchant a coins 1 credit 1;", 2, 38);
        Due.error(QUAY + "lot l of s sacks 1 for m;", 2, QUAY.length() + 4);
        Due.error("spice a loss 1; guild a fee 1 bias 1; merchant a coins 1 credit 1; lot a of a sacks 1 for a;"
                + "weigh a by a; sell a to a sum owes a a when owns a a;", 0, -1);
        Due.error("lot l of s sacks 1 for m;", 3, 9);
        Due.error("spice s loss 1; lot l of s sacks 1 for m;", 3, 39);
        Due.error("merchant s coins 1 credit 1; lot l of s sacks 1 for s;", 3, 38);
        Due.error(QUAY + "weigh m by g;", 3, QUAY.length() + 6);
        Due.error(QUAY + "weigh l by m;", 3, QUAY.length() + 11);
        Due.error(QUAY + "sell m to m sum 1;", 3, QUAY.length() + 5);
        Due.error(QUAY + "sell l to l sum 1;", 3, QUAY.length() + 10);
        Due.error(QUAY + "pay l to m sum 1;", 3, QUAY.length() + 4);
        Due.error(QUAY + "pay m to l sum 1;", 3, QUAY.length() + 9);
        for (String word : "weight chop age".split(" ")) {
            Due.error(QUAY + "pay m to m sum " + word + " l;", 0, -1);
            Due.error(QUAY + "pay m to m sum " + word + " m;", 3, QUAY.length() + 16 + word.length());
        }
        for (String word : "coins debts".split(" ")) {
            Due.error(QUAY + "pay m to m sum " + word + " m;", 0, -1);
            Due.error(QUAY + "pay m to m sum " + word + " l;", 3, QUAY.length() + 21);
        }
        Due.error(QUAY + "pay m to m sum owes l m;", 3, QUAY.length() + 20);
        Due.error(QUAY + "pay m to m sum owes m l;", 3, QUAY.length() + 22);
        Due.error(TEST + "owns l l;", 3, TEST.length() + 5);
        Due.error(TEST + "owns m m;", 3, TEST.length() + 7);
        Due.error(QUAY + "sell l to n sum 1; merchant n coins 1 credit 1;", 3, QUAY.length() + 10);
        Due.error("spice abcdefghij loss 1; spice abcdefghi loss 1; spice abcdefghik loss 1;", 0, -1);
    }

    private static void tooMany() {
        StringBuilder text = new StringBuilder();
        for (int i = 0; i < 4; i++) {
            text.append("spice s" + i + " loss 1;guild g" + i + " fee 1 bias 1;");
        }
        for (int i = 0; i < 6; i++) {
            text.append("merchant m" + i + " coins 1 credit 1;");
        }
        for (int i = 0; i < 10; i++) {
            text.append("lot l" + i + " of s0 sacks 1 for m5;");
        }
        String full = text.toString();
        Due.error(full, 0, -1);
        Due.error(full + "spice s4 loss 1;", 4, full.length() + 6);
        Due.error(full + "spice s3 loss 1;", 2, full.length() + 6);
        Due.error(full + "guild g4 fee 1 bias 1;", 4, full.length() + 6);
        Due.error(full + "guild g0 fee 1 bias 1;", 2, full.length() + 6);
        Due.error(full + "merchant m6 coins 1 credit 1;", 4, full.length() + 9);
        Due.error(full + "merchant m4 coins 1 credit 1;", 2, full.length() + 9);
        Due.error(full + "lot m0 of s0 sacks 1 for m5;", 4, full.length() + 4);
        Due.error(full + "lot l9 of s0 sacks 1 for m5;", 2, full.length() + 4);
        StringBuilder orders = new StringBuilder(QUAY);
        for (int i = 0; i < 8; i++) {
            orders.append("weigh l by g;sell l to m sum 1;pay m to m sum 1;");
        }
        String most = orders.toString();
        Due.error(most, 0, -1);
        Due.error(most + " weigh l by g;", 4, most.length() + 1);
        Due.error(most + " sell x to m sum 1;", 4, most.length() + 1);
        Due.error(most + " pay m to m sum 1;", 4, most.length() + 1);
        Due.error(most + " pay m to m sum;", 1, most.length() + 15);
    }

    private static void ranges() {
        Due.error("spice s loss 0;", 0, -1);
        Due.error("spice s loss 9;", 0, -1);
        Due.error("spice s loss 10;", 5, 13);
        Due.error("guild g fee 0 bias 0;", 0, -1);
        Due.error("guild g fee 99 bias 20;", 0, -1);
        Due.error("guild g fee 100 bias 21;", 5, 12);
        Due.error("guild g fee 99 bias 21;", 5, 20);
        Due.error("merchant m coins 0 credit 0;", 0, -1);
        Due.error("merchant m coins 9999 credit 9999;", 0, -1);
        Due.error("merchant m coins 10000 credit 9999;", 5, 17);
        Due.error("merchant m coins 9999 credit 10000;", 5, 29);
        String ahead = "spice s loss 5;merchant m coins 9 credit 8;lot l of s sacks ";
        Due.error(ahead + "1 for m;", 0, -1);
        Due.error(ahead + "90 for m;", 0, -1);
        Due.error(ahead + "0 for m;", 5, ahead.length());
        Due.error(ahead + "91 for m;", 5, ahead.length());
        Due.error(QUAY + "pay m to m sum 999999;", 0, -1);
    }

    private static void firstErrorCounts() {
        Due.error("spice s loss 10; spice s loss 1;", 5, 13);
        Due.error("spice s loss 1; spice s loss 10;", 2, 22);
        Due.error("lot l of s sacks 99 for m;", 3, 9);
        Due.error("spice s loss 10; spice s loss 1; lot", 1, 36);
        Due.error("weigh l by g; spice s loss 10; ?", 1, 31);
        Due.error("? spice", 1, 0);
    }

    private static void teachAnew() {
        SpiceQuay quay = Due.quay(QUAY + "merchant n coins 5 credit 100;weigh l by g;sell l to n sum 5;"
                + "pay n to m sum 1;");
        quay.setDamp(0);
        quay.pass(8);
        quay.lend(0, 1, 1);
        Due.is("days", quay.count(0), 8);
        Due.is("sold", quay.count(10), 1);
        Due.is("error", Due.teach(quay, QUAY + "weigh l by g;"), 0);
        int[] counts = {8, 0, 1, 1, 1, 1, 1, 300, 0, 9, 0, 0, 0, 0};
        for (int what = 0; what < counts.length; what++) {
            Due.is("count " + what + " of the list anew", quay.count(what), counts[what]);
        }
        Due.is("chop", quay.lot(0, 3), -1);
        Due.is("weight of the chop", quay.lot(0, 4), 0);
        Due.is("age", quay.lot(0, 5), 0);
        Due.is("earned", quay.guild(0, 2), 0);
        Due.is("carried out", quay.order(0, 4), 0);
        Due.is("debts", quay.merchant(0, 2), 0);
        Due.index("no second merchant", () -> quay.merchant(1, 0));
        Due.teach(quay, "");
        for (int what = 2; what <= 13; what++) {
            Due.is("count " + what + " of nothing", quay.count(what), 0);
        }
    }

    private static void errorStaysOut() {
        SpiceQuay quay = Due.quay(QUAY + "weigh l by g when 1 + 1 = 2;");
        quay.pass(3);
        long digest = quay.digest();
        String[] wrong = {"spice t loss 9; spice u loss 9; spice u", "merchant z coins 1 credit 1;"
                + "pay z to z sum 4; pay z to y sum 4;", "spice a loss 10;", "guild h fee 1 bias 1; guild h fee 2 bias 2;"};
        int[] errors = {1, 3, 5, 2};
        for (int i = 0; i < wrong.length; i++) {
            Due.is("error", Due.teach(quay, wrong[i]), errors[i]);
            Due.is("tape behind an error", quay.count(13), 0);
            Due.is("digest behind an error", quay.digest(), digest);
        }
        Due.is("goes on as before", quay.pass(1), 1);
    }

    private static void errorAt() {
        SpiceQuay quay = new SpiceQuay();
        Due.is("none", quay.errorAt(), -1);
        Due.teach(quay, "spice s loss 55;");
        Due.is("of the number", quay.errorAt(), 13);
        quay.feed(0, 0, 0, 0, 0);
        quay.trim(0);
        Due.is("stays", quay.errorAt(), 13);
        Due.teach(quay, "guild");
        Due.is("of the end", quay.errorAt(), 5);
        Due.teach(quay, "");
        Due.is("none again", quay.errorAt(), -1);
    }
}
