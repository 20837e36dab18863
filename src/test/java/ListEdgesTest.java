/** The edges of section 1, the language, and with it of what teach() answers; each test bears its sentence, or belongs to the one ahead of it. */
public final class ListEdgesTest {
    private static final String QUAY = "spice s loss 5;guild g fee 2 bias 10;merchant m coins 9 credit 8;"
            + "lot l of s sacks 3 for m;";
    private static final String PAY = QUAY + "pay m to m sum ";
    private static final String TEST = QUAY + "weigh l by g when ";

    public static void main(String[] args) {
        everyByteAlone();
        everyByteInAName();
        everyByteBehindANumber();
        everyByteInTheSum();
        blanksBetween();
        longestToken();
        longestWord();
        longestNumber();
        noLine();
        depthOfEachSort();
        depthOfAllSortsTogether();
        depthEnds();
        depthOfBothSides();
        depthGoesOnIntoTheSum();
        minusBetweenIsNotDeeper();
        lastToken();
        firstTokenThatIsWrong();
        toldAhead();
        sameSort();
        otherThanItHasToBe();
        mostOfEachSort();
        mostOrders();
        leftToRight();
        sameToken();
        error1First();
        numbersOfSums();
        Due.end();
    }

    private static boolean isBlank(int b) {
        return b == 32 || b == 10;
    }

    private static boolean isLetter(int b) {
        return b >= 97 && b <= 122;
    }

    private static boolean isDigit(int b) {
        return b >= 48 && b <= 57;
    }

    /** "Blanks (32) and line ends (10) can stand [..] at the beginning and at the end"; no other byte alone is a list. */
    private static void everyByteAlone() {
        for (int b = 0; b < 256; b++) {
            Due.error("" + (char) b, isBlank(b) ? 0 : 1, isBlank(b) ? -1 : 0);
            Due.error((char) b + "spice s loss 5;", isBlank(b) ? 0 : 1, isBlank(b) ? -1 : 0);
            Due.error("spice s loss 5;" + (char) b, isBlank(b) ? 0 : 1, isBlank(b) ? -1 : 15);
        }
    }

    /** "A word: a letter a to z, followed by letters a to z and digits" */
    private static void everyByteInAName() {
        for (int b = 0; b < 256; b++) {
            boolean begins = isBlank(b) || isLetter(b);
            Due.error("spice " + (char) b + "xy loss 5;", begins ? 0 : 1, begins ? -1 : 6);
            boolean follows = isBlank(b) || isLetter(b) || isDigit(b);
            Due.error("spice xy" + (char) b + " loss 5;", follows ? 0 : 1, follows ? -1 : 8);
        }
    }

    /** "A number: 1 to 6 digits." */
    private static void everyByteBehindANumber() {
        for (int b = 0; b < 256; b++) {
            int error = isBlank(b) ? 0 : isDigit(b) ? 5 : 1;
            Due.error("spice s loss 5" + (char) b + ";", error, error == 0 ? -1 : error == 5 ? 13 : b == ';' ? 15 : 14);
        }
    }

    /** "a byte with which no token begins": it stands for no value and for no word of the language. */
    private static void everyByteInTheSum() {
        for (int b = 0; b < 256; b++) {
            // behind blanks, "(" and "-" the "(1," comes to its ",", behind a digit not to its "("
            int place = isBlank(b) || b == '(' || b == '-' ? 3 : isDigit(b) ? 1 : 0;
            Due.error(PAY + (char) b + "(1,2);", 1, PAY.length() + place);
            boolean joins = b == '+' || b == '-' || b == '*' || b == '/' || isDigit(b);
            int behind = b == ';' ? 2 : isBlank(b) ? 2 : 1;
            Due.error(PAY + "1" + (char) b + "1;", joins ? 0 : 1, joins ? -1 : PAY.length() + behind);
        }
    }

    /** "can stand between tokens [..], and have to stand between two tokens that would otherwise be read as one" */
    private static void blanksBetween() {
        Due.error("spice s loss 5;guild g fee 2bias 10;merchant m coins 9credit 8;lot l of s sacks 3for m;", 0, -1);
        Due.error(PAY + "-1+2*(3-4)/min(5,6)when[1<2]and[not[1=1]]or 2>=1;", 0, -1);
        Due.error(" \n spice \n s \n loss \n 5 \n ; \n ", 0, -1);
        Due.error("spices loss 5;", 1, 0);
        Due.error("spice sloss 5;", 1, 12);
        Due.error("spice s loss5;", 1, 8);
        Due.error(PAY + "1 2;", 1, PAY.length() + 2);
        Due.error(PAY + "12;", 0, -1);
        Due.error(PAY + "1when 1=1;", 0, -1);
        Due.error(PAY + "daywhen 1=1;", 1, PAY.length());
        Due.error(TEST + "not1=1;", 1, TEST.length());
        Due.error(TEST + "1=1or 1=1;", 0, -1);
        Due.error(TEST + "1=1 or1=1;", 1, TEST.length() + 4);
        Due.error(TEST + "1 < = 1;", 1, TEST.length() + 4);
        Due.error(TEST + "1 > = 1;", 1, TEST.length() + 4);
        Due.error(TEST + "1 <\n= 1;", 1, TEST.length() + 4);
    }

    /** "The longest possible token is always read." */
    private static void longestToken() {
        Due.error(TEST + "1<=1;", 0, -1);
        Due.error(TEST + "1>=1;", 0, -1);
        Due.error(TEST + "1<==1;", 1, TEST.length() + 3);
        Due.error(TEST + "1>==1;", 1, TEST.length() + 3);
        Due.error(TEST + "1<<1;", 1, TEST.length() + 2);
        Due.error(TEST + "1=<1;", 1, TEST.length() + 2);
        Due.error(TEST + "1<-1;", 0, -1);
        Due.error(PAY + "days;", 1, PAY.length());
        Due.error(PAY + "day5;", 1, PAY.length());
        Due.error(PAY + "5day;", 1, PAY.length() + 1);
        Due.error("merchant day1 coins 1 credit 1;", 0, -1);
        Due.error("merchant minmax coins 1 credit 1;", 0, -1);
    }

    /** "at most 10 bytes"; "a word [..] that is too long", and "The position is that of its first byte." */
    private static void longestWord() {
        for (int length = 1; length <= 40; length++) {
            boolean fits = length <= 10;
            Due.error("spice " + "x".repeat(length) + " loss 5;", fits ? 0 : 1, fits ? -1 : 6);
            Due.error("spice x" + "7".repeat(length - 1) + " loss 5;", fits ? 0 : 1, fits ? -1 : 6);
        }
        Due.error("spice x" + "y".repeat(1000) + " loss 5;", 1, 6);
        Due.error("merchantsss m coins 1 credit 1;", 1, 0);
        Due.error("spice s loss abcdefghijk", 1, 13);
        // all ten bytes tell one name from another
        Due.error("spice abcdefghij loss 5;spice abcdefghik loss 5;spice bbcdefghij loss 5;spice abcdefghi loss 5;", 0, -1);
        Due.error("spice abcdefghij loss 5;spice abcdefghij loss 5;", 2, 30);
    }

    /** "1 to 6 digits"; "a [..] number that is too long" */
    private static void longestNumber() {
        for (int length = 1; length <= 20; length++) {
            boolean fits = length <= 6;
            Due.error(PAY + "9".repeat(length) + ";", fits ? 0 : 1, fits ? -1 : PAY.length());
            Due.error("spice s loss " + "0".repeat(length - 1) + "9;", fits ? 0 : 1, fits ? -1 : 13);
        }
        // 10 digits that would wrap around to a small number, and that with more behind them
        Due.error("spice s loss 4294967297;", 1, 13);
        Due.error("spice s loss " + "0".repeat(1500) + ";", 1, 13);
        Due.error("spice s loss ;", 1, 13);
    }

    /** "{ x } x any number of times, also none" */
    private static void noLine() {
        Due.error("", 0, -1);
        Due.error("\n", 0, -1);
        Due.error(";", 1, 0);
        Due.error("spice s loss 5;", 0, -1);
        Due.error("spice s loss 5;spice t loss 5;", 0, -1);
    }

    /** "It may be at most 8."; "the (, [, - or not behind which the depth would be 9" */
    private static void depthOfEachSort() {
        for (int n = 0; n <= 12; n++) {
            nested(PAY, "(", n, "1", ")", 1);
            nested(PAY, "-", n, "1", "", 1);
            nested(PAY, "min(", n, "1", ",2)", 4);
            nested(PAY, "max(", n, "1", ",2)", 4);
            nested(PAY, "min(1,", n, "2", ")", 4);
            nested(TEST, "[", n, "1=1", "]", 1);
            nested(TEST, "not ", n, "1=1", "", 1);
            nested(TEST, "not ", n, "owns m l", "", 1);
        }
    }

    /** The depth grows at this byte, counted from 1, of what opens. */
    private static void nested(String ahead, String open, int n, String inside, String close, int deeperAt) {
        String text = ahead + open.repeat(n) + inside + close.repeat(n) + ";";
        Due.error(text, n <= 8 ? 0 : 1, n <= 8 ? -1 : ahead.length() + 8 * open.length() + deeperAt - 1);
    }

    /** The same, one sort within the other. */
    private static void depthOfAllSortsTogether() {
        int at = TEST.length();
        Due.error(TEST + "not [not [(-(-1))=1]];", 0, -1);
        Due.error(TEST + "not [not [(-(-1))=1 and not [max(-1,1)=1]]];", 0, -1);
        Due.error(TEST + "not [not [(-max(1,-1))=1]];", 0, -1);
        Due.error(TEST + "not [not [(-max(1,(1)))=1]];", 0, -1);
        Due.error(TEST + "not [not [(-max(1,--1))=1]];", 1, at + 19);
        Due.error(TEST + "not [not [(-max(1,-(1)))=1]];", 1, at + 19);
        Due.error(TEST + "not [not [(-max(-(1),1))=1]];", 1, at + 17);
        Due.error(TEST + "not [not [(-max(-min(1,2),1))=1]];", 1, at + 20);
        Due.error(TEST + "not [not [(-(max(1,-1)))=1]];", 1, at + 19);
        Due.error(TEST + "[not [not [not [not 1=1]]]];", 0, -1);
        Due.error(TEST + "[not [not [not [not [1=1]]]]];", 1, at + 20);
        Due.error(TEST + "[not [not [not [not not 1=1]]]];", 1, at + 20);
        Due.error(TEST + "[not [not [not [not -1=1]]]];", 1, at + 20);
        Due.error(TEST + "[not [not [not [not 1=(1)]]]];", 1, at + 22);
    }

    /** "1 greater between a ( and its ), a [ and its ], [..] for what it turns": behind that it is as before. */
    private static void depthEnds() {
        String eight = "((((((((1))))))))";
        Due.error(PAY + eight + "+" + eight + "*" + eight + ";", 0, -1);
        Due.error(PAY + "min(" + eight.substring(1, 16) + "," + eight.substring(1, 16) + ");", 0, -1);
        Due.error(PAY + "min(1,2)+" + eight + ";", 0, -1);
        Due.error(PAY + "--------1+--------1;", 0, -1);
        Due.error(PAY + "-1*" + eight + ";", 0, -1);
        Due.error(PAY + "-1*(" + eight + ");", 1, PAY.length() + 11);
        Due.error(PAY + "-1-" + eight + ";", 0, -1);
        String tests = "[[[[[[[[1=1]]]]]]]]";
        Due.error(TEST + tests + " and " + tests + " or " + tests + ";", 0, -1);
        Due.error(TEST + "not 1=1 and " + tests + ";", 0, -1);
        Due.error(TEST + "not 1=1 or not not not not not not not not 1=1;", 0, -1);
        Due.error(TEST + "(1)=((((((((1))))))));", 0, -1);
        Due.error(PAY + eight + " when " + tests + ";", 0, -1);
        Due.error(PAY + eight + ";pay m to m sum " + eight + ";", 0, -1);
    }

    private static void depthOfBothSides() {
        String min7 = "min(1,".repeat(7);
        String close7 = ")".repeat(7);
        Due.error(PAY + "max((" + min7.substring(0, 36) + "2" + close7.substring(1) + "),0);", 0, -1);
        Due.error(PAY + "max((" + min7 + "2" + close7 + "),0);", 1, PAY.length() + 5 + 36 + 3);
        Due.error(PAY + "max(0,(" + min7 + "2" + close7 + "));", 1, PAY.length() + 7 + 36 + 3);
        Due.error(PAY + "max(" + min7 + "2" + close7 + "," + min7 + "2" + close7 + ");", 0, -1);
        Due.error(PAY + "((((((((1-1))))))))/((((((((2*2))))))));", 0, -1);
        Due.error(TEST + "((((((((1))))))))<(((((((((1)))))))));", 1, TEST.length() + 26);
        Due.error(TEST + "[[[[[[[[1<2 and 3<4 or 5<6]]]]]]]];", 0, -1);
        Due.error(TEST + "[[[[[[[[1<2 and 3<4 or [5<6]]]]]]]]];", 1, TEST.length() + 23);
    }

    private static void depthGoesOnIntoTheSum() {
        int at = TEST.length();
        Due.error(TEST + "[[[[[[[[1=1]]]]]]]];", 0, -1);
        Due.error(TEST + "[[[[[[[[-1=1]]]]]]]];", 1, at + 8);
        Due.error(TEST + "[[[[[[[[1=-1]]]]]]]];", 1, at + 10);
        Due.error(TEST + "[[[[[[[[(1)=1]]]]]]]];", 1, at + 8);
        Due.error(TEST + "[[[[[[[[1=(1)]]]]]]]];", 1, at + 10);
        Due.error(TEST + "[[[[[[[1=(1)]]]]]]];", 0, -1);
        Due.error(TEST + "[[[[[[[1=-(1)]]]]]]];", 1, at + 10);
        Due.error(TEST + "[[[[[[[not 1=1]]]]]]];", 0, -1);
        Due.error(TEST + "[[[[[[[[not 1=1]]]]]]]];", 1, at + 8);
        Due.error(TEST + "[[[[[[[[owns m l]]]]]]]];", 0, -1);
    }

    /** "behind a - in front (of a value)": not behind one between two products. */
    private static void minusBetweenIsNotDeeper() {
        Due.error(PAY + "1-1-1-1-1-1-1-1-1-1-1-1;", 0, -1);
        Due.error(PAY + "((((((((1-1-1))))))));", 0, -1);
        Due.error(PAY + "((((((((1- -1))))))));", 1, PAY.length() + 11);
        Due.error(PAY + "--------1-1-1;", 0, -1);
        Due.error(PAY + "1---------1;", 0, -1);
        Due.error(PAY + "1----------1;", 1, PAY.length() + 10);
        Due.error(PAY + "-(((((((1)))))))-1;", 0, -1);
    }

    /** "the token that would be the 401st (the end of the tape not counted)" */
    private static void lastToken() {
        StringBuilder text = new StringBuilder("merchant m coins 1 credit 1;");
        for (int i = 0; i < 24; i++) {
            text.append("pay m to m sum 1-1-1-1;");
        }
        // 7 and 24 * 13 without the last ; are 318, and 39 * 2 and 3 more are 399
        String most = text.substring(0, text.length() - 1) + "+1".repeat(39) + "+-1";
        for (int more = 0; more <= 3; more++) {
            String blanks = " \n ".substring(0, more);
            int place = most.length() + more;
            Due.error(most + blanks + ";", 0, -1);
            Due.error(most + ";" + blanks, 0, -1);
            Due.error(most + ";" + blanks + "spice", 1, place + 1);
            Due.error(most + ";" + blanks + "spice s loss 1;", 1, place + 1);
            Due.error(most + ";" + blanks + "?", 1, place + 1);
            Due.error(most + "*" + blanks + "1;", 1, place + 1);
            Due.error(most + "*1" + blanks + ";", 1, most.length() + 1);
            Due.error(most + blanks, 1, place);
            Due.error(most + "*" + blanks, 1, place + 1);
        }
    }

    /** "the first token with which the tokens so far are not the beginning of a list": at each token of each line. */
    private static void firstTokenThatIsWrong() {
        String[] lines = {"spice s loss 5 ;", "guild g fee 2 bias 10 ;", "merchant m coins 9 credit 8 ;",
            "lot l of s sacks 3 for m ;", "weigh l by g ;", "weigh l by g when owns m l ;", "sell l to m sum 5 ;",
            "pay m to m sum owes m m when 1 < 2 ;"};
        for (String line : lines) {
            String[] tokens = line.split(" ");
            int at = 0;
            for (int i = 0; i < tokens.length; i++) {
                String ahead = line.substring(0, at);
                Due.error(ahead + "] " + line.substring(at), 1, at);
                Due.error(ahead + "? " + line.substring(at), 1, at);
                Due.error(ahead + "of of " + line.substring(at), 1, at + (tokens[i].equals("of") ? 3 : 0));
                // without what comes then, the end of the tape is the first one that is wrong
                Due.error(ahead.trim(), i == 0 ? 0 : 1, i == 0 ? -1 : ahead.trim().length());
                at += tokens[i].length() + 1;
            }
        }
    }

    /** "told ahead": not on the same line, and not behind it. */
    private static void toldAhead() {
        Due.error("spice s loss 5;merchant m coins 9 credit 8;lot l of l sacks 3 for m;", 3, 52);
        Due.error("merchant m coins 9 credit 8;lot l of s sacks 3 for m;spice s loss 5;", 3, 37);
        Due.error("spice s loss 5;lot l of s sacks 3 for m;merchant m coins 9 credit 8;", 3, 38);
        Due.error(QUAY + "weigh k by g;lot k of s sacks 3 for m;", 3, QUAY.length() + 6);
        Due.error(QUAY + "weigh l by h;guild h fee 2 bias 10;", 3, QUAY.length() + 11);
        Due.error(QUAY + "sell l to n sum 1;merchant n coins 9 credit 8;", 3, QUAY.length() + 10);
        Due.error(QUAY + "pay n to m sum 1;merchant n coins 9 credit 8;", 3, QUAY.length() + 4);
        Due.error(QUAY + "pay m to n sum 1;merchant n coins 9 credit 8;", 3, QUAY.length() + 9);
        Due.error(QUAY + "pay m to m sum age k;lot k of s sacks 3 for m;", 3, QUAY.length() + 19);
        Due.error(QUAY + "merchant n coins 9 credit 8;guild h fee 2 bias 10;lot k of s sacks 3 for n;"
                + "weigh k by h;sell k to n sum age k;pay n to m sum owes n m;", 0, -1);
    }

    /** "Error 2: the name behind spice, guild, merchant or lot [..] is that of one of the same sort told ahead." */
    private static void sameSort() {
        String[] lines = {"spice x loss 5;", "guild x fee 2 bias 10;", "merchant x coins 9 credit 8;"};
        int[] places = {6, 6, 9};
        for (int a = 0; a < 3; a++) {
            for (int b = 0; b < 3; b++) {
                Due.error(lines[a] + lines[b], a == b ? 2 : 0, a == b ? lines[a].length() + places[b] : -1);
            }
        }
        String all = lines[0] + lines[1] + lines[2] + "lot x of x sacks 3 for x;";
        Due.error(all, 0, -1);
        Due.error(all + "lot x of x sacks 3 for x;", 2, all.length() + 4);
        Due.error(all + "spice y loss 5;spice x loss 5;", 2, all.length() + 21);
    }

    /** "Error 3: another name is none of what it has to be", though one of each other sort has it. */
    private static void otherThanItHasToBe() {
        String all = "spice s loss 5;guild g fee 2 bias 10;merchant m coins 9 credit 8;lot l of s sacks 3 for m;";
        String[][] uses = {
            {"lot k of ", "s", " sacks 3 for m;"}, {"lot k of s sacks 3 for ", "m", ";"},
            {"weigh ", "l", " by g;"}, {"weigh l by ", "g", ";"},
            {"sell ", "l", " to m sum 1;"}, {"sell l to ", "m", " sum 1;"},
            {"pay ", "m", " to m sum 1;"}, {"pay m to ", "m", " sum 1;"},
            {"pay m to m sum weight ", "l", ";"}, {"pay m to m sum chop ", "l", ";"}, {"pay m to m sum age ", "l", ";"},
            {"pay m to m sum coins ", "m", ";"}, {"pay m to m sum debts ", "m", ";"},
            {"pay m to m sum owes ", "m", " m;"}, {"pay m to m sum owes m ", "m", ";"},
            {"weigh l by g when owns ", "m", " l;"}, {"weigh l by g when owns m ", "l", ";"},
            {"weigh l by g when 1 < age ", "l", ";"}, {"weigh l by g when not [coins ", "m", " = 1];"},
            {"sell l to m sum 1 when debts ", "m", " = 1;"}};
        for (String[] use : uses) {
            for (String name : new String[] {"s", "g", "m", "l", "x"}) {
                boolean right = name.equals(use[1]);
                Due.error(all + use[0] + name + use[2], right ? 0 : 3, right ? -1 : all.length() + use[0].length());
            }
        }
    }

    /** "Error 4: the name of the 5th spice, of the 5th guild, of the 7th merchant or of the 11th lot" */
    private static void mostOfEachSort() {
        String base = "spice z loss 1;merchant z coins 1 credit 1;";
        most("", "spice ", " loss 5;", 4);
        most("", "guild ", " fee 1 bias 1;", 4);
        most("", "merchant ", " coins 1 credit 1;", 6);
        most(base, "lot ", " of z sacks 1 for z;", 10);
        most(base, "lot ", " of z sacks 90 for z;", 10);
    }

    private static void most(String ahead, String head, String tail, int most) {
        StringBuilder text = new StringBuilder(ahead);
        for (int i = 1; i <= most; i++) {
            text.append(head + "x" + i + tail);
            Due.error(text.toString(), 0, -1);
        }
        int place = text.length() + head.length();
        text.append(head + "one" + tail);
        Due.error(text.toString(), 4, place);
        text.append(head + "more" + tail);
        Due.error(text.toString(), 4, place);
    }

    /** "or the weigh, sell or pay of the 25th order (of all three together)" */
    private static void mostOrders() {
        String[] orders = {"weigh l by g;", "sell l to m sum 1;", "pay m to m sum 1;"};
        for (String each : orders) {
            for (String last : orders) {
                for (int n = 23; n <= 25; n++) {
                    String text = QUAY + each.repeat(n - 1) + last;
                    Due.error(text, n <= 24 ? 0 : 4, n <= 24 ? -1 : text.length() - last.length());
                }
            }
        }
        String mixed = QUAY + (orders[0] + orders[1] + orders[2]).repeat(8);
        Due.error(mixed, 0, -1);
        for (String last : orders) {
            Due.error(mixed + last, 4, mixed.length());
        }
        Due.error(mixed + "spice t loss 1;", 0, -1);
    }

    /** "keywords, names and numbers are looked at from left to right, and the first error is told" */
    private static void leftToRight() {
        Due.error("lot l of s sacks 91 for m;", 3, 9);
        Due.error("spice s loss 1;lot l of s sacks 91 for m;", 5, 32);
        Due.error("spice s loss 1;lot l of s sacks 90 for m;", 3, 39);
        Due.error("spice s loss 10;spice s loss 1;", 5, 13);
        Due.error("spice s loss 1;spice s loss 10;", 2, 21);
        Due.error("guild g fee 100 bias 21;", 5, 12);
        Due.error("merchant m coins 10000 credit 10000;", 5, 17);
        Due.error("merchant m coins 1 credit 1;merchant m coins 10000 credit 1;", 2, 37);
        Due.error(QUAY + "lot l of x sacks 0 for x;", 2, QUAY.length() + 4);
        Due.error(QUAY + "lot k of x sacks 0 for x;", 3, QUAY.length() + 9);
        Due.error(QUAY + "lot k of s sacks 0 for x;", 5, QUAY.length() + 17);
        Due.error(QUAY + "weigh x by x;", 3, QUAY.length() + 6);
        Due.error(QUAY + "sell l to x sum age x;", 3, QUAY.length() + 10);
        Due.error(QUAY + "sell l to m sum age x+age y;", 3, QUAY.length() + 20);
        Due.error(QUAY + "sell l to m sum owes x y;", 3, QUAY.length() + 21);
        Due.error(QUAY + "sell l to m sum 1 when owns x y;", 3, QUAY.length() + 28);
        Due.error(QUAY + "sell l to m sum age x when owns x y;", 3, QUAY.length() + 20);
        Due.error(QUAY + "weigh x by g;spice s loss 1;", 3, QUAY.length() + 6);
        String orders = QUAY + "weigh l by g;".repeat(24);
        Due.error(orders + "spice s loss 1;weigh l by g;", 2, orders.length() + 6);
        Due.error(orders + "weigh l by g;spice s loss 1;", 4, orders.length());
        Due.error(orders + "pay x to y sum age z;", 4, orders.length());
        Due.error(orders + "weigh l by g;weigh l by g;", 4, orders.length());
        String spices = "spice a loss 1;spice b loss 1;spice c loss 1;spice d loss 1;";
        Due.error(spices + "spice e loss 99;", 4, spices.length() + 6);
        Due.error(spices.replace("d loss 1", "d loss 10") + "spice e loss 99;", 5, spices.length() - 2);
    }

    /** "of errors at one token the one with the smallest number" */
    private static void sameToken() {
        String full = Due.fullList();
        Due.error(full, 0, -1);
        for (int i = 0; i < 10; i++) {
            Due.error(full + "lot l" + i + " of s0 sacks 1 for m0;", 2, full.length() + 4);
            if (i < 6) {
                Due.error(full + "merchant m" + i + " coins 1 credit 1;", 2, full.length() + 9);
            }
            if (i < 4) {
                Due.error(full + "guild g" + i + " fee 1 bias 1;", 2, full.length() + 6);
                Due.error(full + "spice s" + i + " loss 1;", 2, full.length() + 6);
            }
        }
        Due.error(full + "lot s0 of s0 sacks 1 for m0;", 4, full.length() + 4);
        Due.error(full + "merchant g0 coins 1 credit 1;", 4, full.length() + 9);
        Due.error(full + "guild l0 fee 1 bias 1;", 4, full.length() + 6);
        Due.error(full + "spice m0 loss 1;", 4, full.length() + 6);
    }

    /** "Only if there is no error 1" */
    private static void error1First() {
        String[] wrong = {"spice s loss 5;spice s loss 5;", "lot l of s sacks 1 for m;", "spice s loss 99;",
            "guild a fee 1 bias 1;guild b fee 1 bias 1;guild c fee 1 bias 1;guild d fee 1 bias 1;guild e fee 1 bias 1;",
            QUAY + "weigh l by g;".repeat(25)};
        for (String text : wrong) {
            Due.error(text + "lot", 1, text.length() + 3);
            Due.error(text + ";", 1, text.length());
            Due.error(text + " \n?", 1, text.length() + 2);
            Due.error(text + "pay a to b sum ---------1;", 1, text.length() + 23);
            Due.error(text + "pay a to b sum 1234567;", 1, text.length() + 15);
            Due.error(text + "spice abcdefghijk loss 1;", 1, text.length() + 6);
        }
    }

    /** Numbers of sums and tests have no range: "Error 5: a number is out of its range" tells of six others. */
    private static void numbersOfSums() {
        Due.error(PAY + "0;", 0, -1);
        Due.error(PAY + "999999;", 0, -1);
        Due.error(PAY + "-999999*999999 when 999999 > 000000;", 0, -1);
        String[][] ranges = {{"spice s loss ", "0", "9", "10", ";"}, {"guild g fee ", "0", "99", "100", " bias 0;"},
            {"guild g fee 0 bias ", "0", "20", "21", ";"}, {"merchant m coins ", "0", "9999", "10000", " credit 0;"},
            {"merchant m coins 0 credit ", "0", "9999", "10000", ";"},
            {"spice s loss 0;merchant m coins 0 credit 0;lot l of s sacks ", "1", "90", "91", " for m;"}};
        for (String[] range : ranges) {
            Due.error(range[0] + range[1] + range[4], 0, -1);
            Due.error(range[0] + "00" + range[1] + range[4], 0, -1);
            Due.error(range[0] + range[2] + range[4], 0, -1);
            Due.error(range[0] + range[3] + range[4], 5, range[0].length());
            Due.error(range[0] + "999999" + range[4], 5, range[0].length());
            Due.error(range[0] + "0" + range[4], range[1].equals("0") ? 0 : 5, range[1].equals("0") ? -1 : range[0].length());
        }
    }
}
