/** Promises 14 to 17: by hand. */
public final class HandTest {
    private static final String TWO = "merchant a coins 100 credit 50; merchant b coins 30 credit 60;";

    public static void main(String[] args) {
        setDamp();
        lend();
        lendWrong();
        lendOrderOfExceptions();
        offset();
        dry();
        Due.end();
    }

    private static void setDamp() {
        SpiceQuay quay = new SpiceQuay();
        Due.is("the first one", quay.setDamp(0), 3);
        Due.is("the one before", quay.setDamp(9), 0);
        for (int wrong : new int[] {-1, 10, Integer.MAX_VALUE, Integer.MIN_VALUE}) {
            Due.argument("setDamp " + wrong, () -> quay.setDamp(wrong));
        }
        Due.is("damp", quay.count(1), 9);
        Due.is("the same", quay.setDamp(9), 9);
        Due.teach(quay, "spice s loss 9; merchant m coins 0 credit 0; lot l of s sacks 90 for m;");
        Due.is("damp behind teach", quay.count(1), 9);
        quay.pass(1);
        Due.is("weight", quay.lot(0, 1), 9000 - 729);
    }

    private static void lend() {
        SpiceQuay quay = Due.quay(TWO);
        Due.is("lend", quay.lend(0, 1, 1), 1);
        Due.is("lend more", quay.lend(0, 1, 59), 60);
        Due.is("coins of the one who lends", quay.merchant(0, 0), 40);
        Due.is("coins of the other one", quay.merchant(1, 0), 90);
        Due.is("owes", quay.owes(1, 0), 60);
        Due.is("owes the other way", quay.owes(0, 1), 0);
        Due.state("beyond the credit", () -> quay.lend(0, 1, 1));
        Due.is("back", quay.lend(1, 0, 50), 50);
        Due.is("both owe", quay.owes(1, 0), 60);
        Due.state("beyond the credit, nothing set off", () -> quay.lend(1, 0, 1));
        Due.is("all that is owed", quay.count(8), 110);
        Due.is("all coins", quay.count(9), 130);

        SpiceQuay rich = Due.quay("merchant a coins 9999 credit 0; merchant b coins 0 credit 9999;");
        Due.state("nothing there", () -> rich.lend(1, 0, 1));
        Due.is("the most", rich.lend(0, 1, 9999), 9999);
        Due.is("none left", rich.merchant(0, 0), 0);
    }

    private static void lendWrong() {
        SpiceQuay quay = Due.quay(TWO + "merchant c coins 5 credit 9999;");
        long digest = quay.digest();
        for (int wrong : new int[] {-1, 3, Integer.MAX_VALUE, Integer.MIN_VALUE}) {
            Due.index("lend of " + wrong, () -> quay.lend(wrong, 0, 1));
            Due.index("lend to " + wrong, () -> quay.lend(0, wrong, 1));
        }
        for (int wrong : new int[] {-1, 0, 10000, Integer.MAX_VALUE, Integer.MIN_VALUE}) {
            Due.argument("lend " + wrong, () -> quay.lend(0, 1, wrong));
        }
        Due.argument("lend oneself", () -> quay.lend(0, 0, 1));
        Due.state("too few coins", () -> quay.lend(0, 2, 101));
        Due.state("too little credit", () -> quay.lend(0, 1, 61));
        Due.state("the most", () -> quay.lend(0, 1, 9999));
        Due.is("nothing changed", quay.digest(), digest);
    }

    private static void lendOrderOfExceptions() {
        SpiceQuay quay = Due.quay(TWO);
        Due.index("no such merchants, both the same", () -> quay.lend(2, 2, 0));
        Due.index("no such merchant, no coins", () -> quay.lend(0, 2, 0));
        Due.argument("the same, too many", () -> quay.lend(1, 1, 9999));
        Due.argument("no coins, too many", () -> quay.lend(0, 1, 10000));
    }

    private static void offset() {
        SpiceQuay quay = Due.quay(TWO);
        Due.is("nothing", quay.offset(0, 1), 0);
        quay.lend(0, 1, 40);
        Due.is("one way", quay.offset(0, 1), 0);
        Due.is("stays", quay.owes(1, 0), 40);
        quay.lend(1, 0, 15);
        Due.is("the lesser one", quay.offset(0, 1), 15);
        Due.is("b owes", quay.owes(1, 0), 25);
        Due.is("a owes", quay.owes(0, 1), 0);
        Due.is("all that is owed", quay.count(8), 25);
        quay.lend(1, 0, 25);
        Due.is("both alike", quay.offset(1, 0), 25);
        Due.is("nothing is owed", quay.count(8), 0);
        Due.is("coins stay", quay.merchant(0, 0), 100);
        Due.argument("with oneself", () -> quay.offset(1, 1));
        for (int wrong : new int[] {-1, 2, Integer.MAX_VALUE, Integer.MIN_VALUE}) {
            Due.index("offset of " + wrong, () -> quay.offset(wrong, 0));
            Due.index("offset with " + wrong, () -> quay.offset(0, wrong));
            Due.index("offset of " + wrong + " with itself", () -> quay.offset(wrong, wrong));
        }
    }

    private static void dry() {
        SpiceQuay quay = Due.quay("spice s loss 0; guild g fee 0 bias 0; merchant m coins 0 credit 0;"
                + "lot l of s sacks 1 for m; lot k of s sacks 2 for m; weigh l by g; weigh k by g;");
        quay.pass(1);
        int weight = 100;
        for (int i = 0; i < 40; i++) {
            weight -= weight / 10;
            Due.is("dry " + i, quay.dry(0), weight);
            Due.is("weight", quay.lot(0, 1), weight);
        }
        Due.is("no less than this", weight, 9);
        int[] want = {0, 9, 0, -1, 0, 0, 0};
        for (int what = 0; what <= 6; what++) {
            Due.is("dried lot " + what, quay.lot(0, what), want[what]);
        }
        Due.is("the other lot", quay.lot(1, 1), 200);
        Due.is("the other chop", quay.lot(1, 3), 0);
        Due.is("lots with this chop", quay.guild(0, 3), 1);
        for (int wrong : new int[] {-1, 2, Integer.MAX_VALUE, Integer.MIN_VALUE}) {
            Due.index("dry " + wrong, () -> quay.dry(wrong));
        }
        Due.is("weighed anew", quay.pass(1), 2);
        Due.is("chop anew", quay.lot(0, 4), 9);
    }
}
