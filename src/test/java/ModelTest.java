import java.util.ArrayList;
import java.util.Arrays;
import java.util.List;
import java.util.Random;

/** Random lists and calls, answered by the quay and by a slow model that is built another way. */
public final class ModelTest {
    private static final int ROUNDS = 700;
    private static final int[] TAUGHT = new int[6];

    public static void main(String[] args) {
        for (int round = 0; round < ROUNDS; round++) {
            Random random = new Random(round);
            SpiceQuay quay = new SpiceQuay();
            Model model = new Model();
            // an object is used for at most 512 calls
            for (int list = 0; list < 2; list++) {
                teachBoth("round " + round, random, quay, model);
                for (int call = 0; call < 25; call++) {
                    callBoth("round " + round + " call " + call, random, quay, model);
                }
                compareAll("round " + round, quay, model);
            }
        }
        for (int round = 0; round < 10 * ROUNDS; round++) {
            Random random = new Random(-1 - round);
            teachBoth("list " + round, random, new SpiceQuay(), new Model());
        }
        everyTokenInEachPlace();
        for (int error = 0; error <= 5; error++) {
            System.out.println(TAUGHT[error] + " lists with the answer " + error);
            Due.is("enough lists with the answer " + error, TAUGHT[error] >= 100 ? 1 : 0, 1);
        }
        Due.end();
    }

    /** In a list with each sort of line, each token is left out, and each other one put in its place and ahead of it. */
    private static void everyTokenInEachPlace() {
        String list = "spice s loss 5 ; guild g fee 2 bias 1 ; merchant m coins 9 credit 8 ; lot l of s sacks 3 for m ;"
                + " weigh l by g when not [ owns m l or 1 < 2 ] and ( day ) >= min ( 4 , damp ) ;"
                + " sell l to m sum - 6 + weight l * owes m m / 7 ; pay m to m sum coins m - max ( 1 , debts m ) when age l = chop l ;";
        String[] tokens = list.split(" ");
        List<String> others = new ArrayList<>(Model.KEYWORDS);
        others.addAll(List.of("(", ")", "[", "]", ";", ",", "+", "-", "*", "/", "<", ">", "=", "<=", ">=", "s", "x", "0", "1234567",
                "abcdefghijk", "?", ""));
        for (int i = 0; i < tokens.length; i++) {
            String ahead = String.join(" ", Arrays.copyOf(tokens, i)) + " ";
            String behind = " " + String.join(" ", Arrays.copyOfRange(tokens, i + 1, tokens.length));
            for (String other : others) {
                teachBoth("in the place of token " + i, ahead + other + behind, new SpiceQuay(), new Model());
                teachBoth("ahead of token " + i, ahead + other + " " + tokens[i] + behind, new SpiceQuay(), new Model());
            }
        }
    }

    private static void teachBoth(String where, Random random, SpiceQuay quay, Model model) {
        teachBoth(where, new ListWriter(random).write(), quay, model);
    }

    private static void teachBoth(String where, String text, SpiceQuay quay, Model model) {
        int[] want = model.teach(text);
        int got = Due.teach(quay, text);
        TAUGHT[want[0]]++;
        if (got != want[0] || quay.errorAt() != want[1]) {
            Due.is(where + " teach of <" + text + ">", got, want[0]);
            Due.is(where + " errorAt of <" + text + ">", quay.errorAt(), want[1]);
        }
    }

    private static void callBoth(String where, Random random, SpiceQuay quay, Model model) {
        int size = model.merchants.size();
        int a = size == 0 ? 0 : random.nextInt(size);
        int b = size == 0 ? 0 : random.nextInt(size);
        int days = 1 + random.nextInt(random.nextBoolean() ? 9 : 90);
        switch (random.nextInt(10)) {
            case 0: {
                int damp = random.nextInt(10);
                Due.is(where + " setDamp", quay.setDamp(damp), model.setDamp(damp));
                break;
            }
            case 1: {
                int coins = 1 + random.nextInt(random.nextBoolean() ? 30 : 2000);
                if (size > 0) {
                    Long want = model.lend(a, b, coins);
                    if (want == null && a == b) {
                        Due.argument(where + " lend", () -> quay.lend(a, b, coins));
                    } else if (want == null) {
                        Due.state(where + " lend", () -> quay.lend(a, b, coins));
                    } else {
                        Due.is(where + " lend", quay.lend(a, b, coins), want);
                    }
                }
                break;
            }
            case 2:
                if (size > 1 && a != b) {
                    Due.is(where + " offset", quay.offset(a, b), model.offset(a, b));
                }
                break;
            case 3:
                if (!model.lots.isEmpty()) {
                    int lot = random.nextInt(model.lots.size());
                    Due.is(where + " dry", quay.dry(lot), model.dry(lot));
                }
                break;
            case 4: {
                int what = random.nextInt(7) == 0 ? 0 : 7 + random.nextInt(6);
                Model then = model.copy();
                int carriedOut = then.pass(days);
                Due.is(where + " foresee", quay.foresee(days, what), what == 0 ? carriedOut : then.count(what));
                break;
            }
            case 5: {
                int damp = random.nextInt(10);
                Model then = model.copy();
                then.damp = damp;
                then.pass(days);
                Due.is(where + " costs", quay.costs(days, damp), model.count(7) - then.count(7));
                break;
            }
            case 6:
                Due.is(where + " richest", quay.richest(days), model.richest(days));
                break;
            case 7:
                if (size > 0) {
                    Due.is(where + " until", quay.until(a), model.until(a));
                }
                break;
            default:
                Due.is(where + " pass", quay.pass(days), model.pass(days));
        }
        Due.is(where + " digest", quay.digest(), model.digest());
    }

    private static void compareAll(String where, SpiceQuay quay, Model model) {
        for (int a = 0; a < model.merchants.size(); a++) {
            Due.is(where + " ring", quay.ring(a), model.ring(a));
            for (int b = 0; b < model.merchants.size(); b++) {
                Due.is(where + " chain", quay.chain(a, b), model.chain(a, b));
            }
        }
        double mean = model.lots.isEmpty() ? 0 : (double) model.count(7) / model.lots.size();
        Due.isDouble(where + " mean", quay.mean(), mean);
        for (int what = 0; what <= 13; what++) {
            Due.is(where + " count", quay.count(what), model.count(what));
        }
    }

    /** Writes lists that are mostly right. */
    private static final class ListWriter {
        private final Random random;
        private final StringBuilder text = new StringBuilder();
        private final int[] told = new int[4];
        private final int[] most = {4, 4, 6, 10};
        private static final String[] FIRST = {"s", "g", "m", "l"};
        private static final String[] SCRAPS = {";", "(", ")", "[", "]", "-", "not", "min", "5", "x", "when", "=", "<",
            "weight", "sum", "and", "or", "owns", "owes", "?", "1234567", "abcdefghijk", "", ",", "spice", "pay", "lot"};

        ListWriter(Random random) {
            this.random = random;
        }

        String write() {
            int tricky = random.nextInt(4);
            for (int i = 0; i < 4; i++) {
                int many = random.nextInt(most[i] + (tricky == 0 ? 2 : 1));
                for (int k = 0; k < (tricky > 1 && many == 0 ? 1 : many); k++) {
                    thing(i);
                }
            }
            int orders = random.nextInt(tricky == 0 && random.nextInt(9) == 0 ? 40 : 25);
            for (int i = 0; i < orders && text.length() < 1800; i++) {
                order();
            }
            String whole = text.toString();
            for (int i = random.nextInt(3); tricky < 2 && i > 0; i--) {
                whole = spoil(whole);
            }
            return whole.length() > 2000 ? whole.substring(0, 2000) : whole;
        }

        private String spoil(String whole) {
            int at = random.nextInt(whole.length() + 1);
            int to = Math.min(whole.length(), at + random.nextInt(3));
            return whole.substring(0, at) + SCRAPS[random.nextInt(SCRAPS.length)] + whole.substring(to);
        }

        private void thing(int sort) {
            String name = FIRST[sort] + (rarely() ? random.nextInt(3) : told[sort]);
            told[sort]++;
            switch (sort) {
                case 0: put("spice", name, "loss", number(0, 9)); break;
                case 1: put("guild", name, "fee", number(0, random.nextBoolean() ? 99 : 4), "bias", number(0, 20)); break;
                case 2: put("merchant", name, "coins", number(0, random.nextBoolean() ? 9999 : 99), "credit",
                        number(0, random.nextBoolean() ? 9999 : 300)); break;
                default: put("lot", name, "of", name(0), "sacks", number(1, random.nextBoolean() ? 90 : 9), "for", name(2));
            }
            put(";");
        }

        private void order() {
            switch (random.nextInt(4)) {
                case 0:
                    put("weigh", name(3), "by", name(1));
                    break;
                case 1:
                    put("pay", name(2), "to", name(2), "sum");
                    sum(0);
                    break;
                default:
                    put("sell", name(3), "to", name(2), "sum");
                    sum(0);
            }
            if (random.nextInt(3) == 0) {
                put("when");
                test(0);
            }
            put(";");
        }

        private void test(int depth) {
            switch (depth > 8 ? 6 : random.nextInt(9)) {
                case 0: put("not"); test(depth + 1); break;
                case 1: put("["); test(depth + 1); put("]"); break;
                case 2: test(depth + 1); put("and"); test(depth + 1); break;
                case 3: test(depth + 1); put("or"); test(depth + 1); break;
                case 4: put("owns", name(2), name(3)); break;
                default:
                    sum(depth + 1);
                    put(new String[] {"<", ">", "=", "<=", ">="}[random.nextInt(5)]);
                    sum(depth + 1);
            }
        }

        private void sum(int depth) {
            switch (random.nextInt(depth > 8 ? 6 : 12)) {
                case 0: put(new String[] {"day", "damp"}[random.nextInt(2)]); break;
                case 1: put(new String[] {"weight", "chop", "age"}[random.nextInt(3)], name(3)); break;
                case 2: put(new String[] {"coins", "debts"}[random.nextInt(2)], name(2)); break;
                case 3: put("owes", name(2), name(2)); break;
                case 4: case 5: case 6: put(number(0, random.nextInt(4) == 0 ? 999999 : 99)); break;
                case 7: put("-"); sum(depth + 1); break;
                case 8: put("("); sum(depth + 1); put(")"); break;
                case 9: put(new String[] {"min", "max"}[random.nextInt(2)], "("); sum(depth + 1); put(",");
                    sum(depth + 1); put(")"); break;
                default: sum(depth + 1); put(new String[] {"+", "-", "*", "/"}[random.nextInt(4)]); sum(depth + 1);
            }
        }

        private String name(int sort) {
            if (random.nextInt(300) == 0) {
                return FIRST[random.nextInt(4)] + random.nextInt(10);
            }
            return FIRST[sort] + random.nextInt(Math.max(1, told[sort]));
        }

        private String number(int least, int most) {
            return "" + (rarely() ? most + random.nextInt(3) : least + random.nextInt(most - least + 1));
        }

        private boolean rarely() {
            return random.nextInt(150) == 0;
        }

        private void put(String... tokens) {
            for (String token : tokens) {
                text.append(token).append(random.nextInt(20) == 0 ? "\n" : " ");
                if (random.nextInt(10) == 0 && ";()[],+-*/<>=".contains(token)) {
                    text.setLength(text.length() - 1);
                }
            }
        }
    }

    /** Reads by trying all ways of the grammar at once, and reckons from the text of the tokens. */
    private static final class Model {
        private static final List<String> KEYWORDS = Arrays.asList(("spice loss guild fee bias merchant coins credit lot"
                + " of sacks for weigh by sell to pay sum when day damp weight chop age debts owes owns not and or min"
                + " max").split(" "));
        // ^ stands ahead of a token behind which the depth is greater, _ where it ends; NAME and NUMBER are tokens.
        private static final String[][] RULES = {
            {"list", "", "line ; list"},
            {"line", "spice NAME loss NUMBER", "guild NAME fee NUMBER bias NUMBER", "merchant NAME coins NUMBER credit NUMBER",
                "lot NAME of NAME sacks NUMBER for NAME", "weigh NAME by NAME if", "sell NAME to NAME sum total if",
                "pay NAME to NAME sum total if"},
            {"if", "", "when test"},
            {"test", "both moretest"}, {"moretest", "", "or both moretest"},
            {"both", "single moreboth"}, {"moreboth", "", "and single moreboth"},
            {"single", "^not single _", "^[ test _ ]", "owns NAME NAME", "total < total", "total > total", "total = total",
                "total <= total", "total >= total"},
            {"total", "product moretotal"}, {"moretotal", "", "+ product moretotal", "- product moretotal"},
            {"product", "value moreproduct"}, {"moreproduct", "", "* value moreproduct", "/ value moreproduct"},
            {"value", "NUMBER", "day", "damp", "weight NAME", "chop NAME", "age NAME", "coins NAME", "debts NAME",
                "owes NAME NAME", "^- value _", "^( total _ )", "min ^( total , total _ )", "max ^( total , total _ )"},
        };

        static final class Lot {
            String name;
            int spice;
            int weight;
            int owner;
            int guild = -1;
            int chop;
            int made;
        }

        static final class Order {
            String deed;
            int who;
            int whom;
            List<String> sum = new ArrayList<>();
            List<String> test = new ArrayList<>();
            int done;
        }

        int day;
        int damp = 3;
        int sold;
        int weighed;
        int paid;
        List<String> spices = new ArrayList<>();
        List<String> guilds = new ArrayList<>();
        List<String> merchants = new ArrayList<>();
        List<Lot> lots = new ArrayList<>();
        List<Order> orders = new ArrayList<>();
        int[] loss = new int[4];
        int[] fee = new int[4];
        int[] bias = new int[4];
        int[] earned = new int[4];
        int[] coins = new int[6];
        int[] credit = new int[6];
        int[][] owed = new int[6][6];

        // ---- reading

        private List<String> tokens;
        private List<Integer> places;

        /** The error and its place. */
        int[] teach(String text) {
            cut(text);
            int broken = firstBroken();
            if (broken >= 0) {
                return new int[] {1, places.get(broken)};
            }
            Model fresh = new Model();
            int[] fault = fresh.fill(tokens, places);
            if (fault != null) {
                return fault;
            }
            spices = fresh.spices;
            guilds = fresh.guilds;
            merchants = fresh.merchants;
            lots = fresh.lots;
            orders = fresh.orders;
            loss = fresh.loss;
            fee = fresh.fee;
            bias = fresh.bias;
            earned = fresh.earned;
            coins = fresh.coins;
            credit = fresh.credit;
            owed = fresh.owed;
            sold = 0;
            weighed = 0;
            paid = 0;
            return new int[] {0, -1};
        }

        private void cut(String text) {
            tokens = new ArrayList<>();
            places = new ArrayList<>();
            java.util.regex.Matcher matcher = java.util.regex.Pattern
                    .compile("[ \n]+|([a-z][a-z0-9]*|[0-9]+|<=|>=|[^ \n])", java.util.regex.Pattern.DOTALL).matcher(text);
            while (matcher.find()) {
                if (matcher.group(1) != null) {
                    tokens.add(matcher.group(1));
                    places.add(matcher.start());
                }
            }
            tokens.add("END");
            places.add(text.length());
        }

        private static boolean matches(String symbol, String token) {
            if (symbol.equals("NAME")) {
                return token.matches("[a-z][a-z0-9]{0,9}") && !KEYWORDS.contains(token);
            }
            return symbol.equals("NUMBER") ? token.matches("[0-9]{1,6}") : symbol.equals(token);
        }

        private int firstBroken() {
            List<List<String>> ways = new ArrayList<>();
            ways.add(new ArrayList<>(List.of("list", "END")));
            List<Integer> depths = new ArrayList<>(List.of(0));
            for (int i = 0; i < tokens.size(); i++) {
                String token = tokens.get(i);
                List<List<String>> next = new ArrayList<>();
                List<Integer> nextDepths = new ArrayList<>();
                if (i < 400 || token.equals("END")) {
                    for (int way = 0; way < ways.size(); way++) {
                        follow(ways.get(way), depths.get(way), token, next, nextDepths);
                    }
                }
                if (next.isEmpty()) {
                    return i;
                }
                ways = next;
                depths = nextDepths;
            }
            return -1;
        }

        /** The last symbol of a way is the end, the first one what comes next. */
        private static void follow(List<String> way, int depth, String token, List<List<String>> next, List<Integer> depths) {
            String first = way.get(0);
            List<String> rest = way.subList(1, way.size());
            if (first.equals("_")) {
                follow(rest, depth - 1, token, next, depths);
                return;
            }
            for (String[] rule : RULES) {
                // the word sum is a token, and so the sum of the grammar is called total here
                if (rule[0].equals(first)) {
                    for (int i = 1; i < rule.length; i++) {
                        List<String> longer = new ArrayList<>(rule[i].isEmpty() ? List.of() : Arrays.asList(rule[i].split(" ")));
                        longer.addAll(rest);
                        follow(longer, depth, token, next, depths);
                    }
                    return;
                }
            }
            boolean deeper = first.startsWith("^");
            if (matches(deeper ? first.substring(1) : first, token) && depth + (deeper ? 1 : 0) <= 8) {
                next.add(new ArrayList<>(rest));
                depths.add(depth + (deeper ? 1 : 0));
            }
        }

        private int[] fill(List<String> all, List<Integer> where) {
            int start = 0;
            for (int i = 0; i < all.size(); i++) {
                if (all.get(i).equals(";")) {
                    int[] fault = line(all.subList(start, i), where.subList(start, i));
                    if (fault != null) {
                        return fault;
                    }
                    start = i + 1;
                }
            }
            return null;
        }

        private List<String> lotNames() {
            List<String> names = new ArrayList<>();
            for (Lot lot : lots) {
                names.add(lot.name);
            }
            return names;
        }

        private int[] line(List<String> line, List<Integer> where) {
            switch (line.get(0)) {
                case "spice": return thing(line, where, spices, 4, new int[][] {{3, 0, 9}});
                case "guild": return thing(line, where, guilds, 4, new int[][] {{3, 0, 99}, {5, 0, 20}});
                case "merchant": return thing(line, where, merchants, 6, new int[][] {{3, 0, 9999}, {5, 0, 9999}});
                case "lot": return thing(line, where, lotNames(), 10, new int[][] {{5, 1, 90}});
                default: return orderLine(line, where);
            }
        }

        private int[] thing(List<String> line, List<Integer> where, List<String> names, int most, int[][] numbers) {
            if (names.contains(line.get(1))) {
                return new int[] {2, where.get(1)};
            }
            if (names.size() == most) {
                return new int[] {4, where.get(1)};
            }
            boolean isLot = line.get(0).equals("lot");
            if (isLot && !spices.contains(line.get(3))) {
                return new int[] {3, where.get(3)};
            }
            for (int[] number : numbers) {
                int x = Integer.parseInt(line.get(number[0]));
                if (x < number[1] || x > number[2]) {
                    return new int[] {5, where.get(number[0])};
                }
            }
            if (isLot && !merchants.contains(line.get(7))) {
                return new int[] {3, where.get(7)};
            }
            keep(line);
            return null;
        }

        private void keep(List<String> line) {
            switch (line.get(0)) {
                case "spice":
                    loss[spices.size()] = Integer.parseInt(line.get(3));
                    spices.add(line.get(1));
                    break;
                case "guild":
                    fee[guilds.size()] = Integer.parseInt(line.get(3));
                    bias[guilds.size()] = Integer.parseInt(line.get(5));
                    guilds.add(line.get(1));
                    break;
                case "merchant":
                    coins[merchants.size()] = Integer.parseInt(line.get(3));
                    credit[merchants.size()] = Integer.parseInt(line.get(5));
                    merchants.add(line.get(1));
                    break;
                default:
                    Lot lot = new Lot();
                    lot.name = line.get(1);
                    lot.spice = spices.indexOf(line.get(3));
                    lot.weight = 100 * Integer.parseInt(line.get(5));
                    lot.owner = merchants.indexOf(line.get(7));
                    lots.add(lot);
            }
        }

        private int[] orderLine(List<String> line, List<Integer> where) {
            if (orders.size() == 24) {
                return new int[] {4, where.get(0)};
            }
            Order order = new Order();
            order.deed = line.get(0);
            List<String> doers = order.deed.equals("pay") ? merchants : lotNames();
            List<String> others = order.deed.equals("weigh") ? guilds : merchants;
            order.who = doers.indexOf(line.get(1));
            order.whom = others.indexOf(line.get(3));
            if (order.who < 0 || order.whom < 0) {
                return new int[] {3, where.get(order.who < 0 ? 1 : 3)};
            }
            for (int i = 4; i < line.size(); i++) {
                List<String> due = dueAt(line, i);
                if (due != null && !due.contains(line.get(i))) {
                    return new int[] {3, where.get(i)};
                }
            }
            int when = line.indexOf("when");
            if (!order.deed.equals("weigh")) {
                order.sum = new ArrayList<>(line.subList(5, when < 0 ? line.size() : when));
            }
            if (when >= 0) {
                order.test = new ArrayList<>(line.subList(when + 1, line.size()));
            }
            orders.add(order);
            return null;
        }

        private List<String> dueAt(List<String> line, int i) {
            switch (line.get(i - 1)) {
                case "weight": case "chop": case "age": return lotNames();
                case "coins": case "debts": case "owes": case "owns": return merchants;
                default:
            }
            switch (line.get(i - 2)) {
                case "owes": return merchants;
                case "owns": return lotNames();
                default: return null;
            }
        }

        // ---- reckoning

        private List<String> left;

        private boolean test(List<String> text) {
            left = new ArrayList<>(text);
            return text.isEmpty() || anyOf();
        }

        private int sum(List<String> text) {
            left = new ArrayList<>(text);
            return text.isEmpty() ? 0 : sum();
        }

        private boolean eat(String token) {
            if (!left.isEmpty() && left.get(0).equals(token)) {
                left.remove(0);
                return true;
            }
            return false;
        }

        private boolean anyOf() {
            boolean any = allOf();
            while (eat("or")) {
                any = allOf() | any;
            }
            return any;
        }

        private boolean allOf() {
            boolean all = one();
            while (eat("and")) {
                all = one() & all;
            }
            return all;
        }

        private boolean one() {
            if (eat("not")) {
                return !one();
            }
            if (eat("[")) {
                boolean inside = anyOf();
                eat("]");
                return inside;
            }
            if (eat("owns")) {
                int owner = merchants.indexOf(left.remove(0));
                return theLot().owner == owner;
            }
            int a = sum();
            String sign = left.remove(0);
            int b = sum();
            int order = Integer.compare(a, b);
            return order < 0 ? sign.startsWith("<") : order > 0 ? sign.startsWith(">") : sign.endsWith("=");
        }

        private int sum() {
            int sum = product();
            while (true) {
                if (eat("+")) {
                    sum += product();
                } else if (eat("-")) {
                    sum -= product();
                } else {
                    return sum;
                }
            }
        }

        private int product() {
            int product = value();
            while (true) {
                if (eat("*")) {
                    product *= value();
                } else if (eat("/")) {
                    int by = value();
                    product = by == 0 ? 0 : (int) ((long) product / by);
                } else {
                    return product;
                }
            }
        }

        private Lot theLot() {
            return lots.get(lotNames().indexOf(left.remove(0)));
        }

        private int value() {
            String token = left.remove(0);
            switch (token) {
                case "day": return day;
                case "damp": return damp;
                case "weight": return theLot().weight;
                case "chop": return theLot().chop;
                case "age": {
                    Lot lot = theLot();
                    return lot.guild < 0 ? 0 : day - lot.made;
                }
                case "coins": return coins[merchants.indexOf(left.remove(0))];
                case "debts": return debts(merchants.indexOf(left.remove(0)));
                case "owes": {
                    int a = merchants.indexOf(left.remove(0));
                    return owed[a][merchants.indexOf(left.remove(0))];
                }
                case "-": return -value();
                case "(": {
                    int inside = sum();
                    eat(")");
                    return inside;
                }
                case "min": case "max": {
                    eat("(");
                    int a = sum();
                    eat(",");
                    int b = sum();
                    eat(")");
                    return token.equals("min") == a < b ? a : b;
                }
                default: return Integer.parseInt(token);
            }
        }

        // ---- the quay

        int debts(int a) {
            return Arrays.stream(owed[a]).sum();
        }

        int claims(int b) {
            int claims = 0;
            for (int[] row : owed) {
                claims += row[b];
            }
            return claims;
        }

        Model copy() {
            Model copy = new Model();
            copy.day = day;
            copy.damp = damp;
            copy.sold = sold;
            copy.weighed = weighed;
            copy.paid = paid;
            copy.spices = spices;
            copy.guilds = guilds;
            copy.merchants = merchants;
            copy.loss = loss;
            copy.fee = fee;
            copy.bias = bias;
            copy.credit = credit;
            copy.earned = earned.clone();
            copy.coins = coins.clone();
            for (int i = 0; i < 6; i++) {
                copy.owed[i] = owed[i].clone();
            }
            for (Lot lot : lots) {
                Lot other = new Lot();
                other.name = lot.name;
                other.spice = lot.spice;
                other.weight = lot.weight;
                other.owner = lot.owner;
                other.guild = lot.guild;
                other.chop = lot.chop;
                other.made = lot.made;
                copy.lots.add(other);
            }
            for (Order order : orders) {
                Order other = new Order();
                other.deed = order.deed;
                other.who = order.who;
                other.whom = order.whom;
                other.sum = order.sum;
                other.test = order.test;
                other.done = order.done;
                copy.orders.add(other);
            }
            return copy;
        }

        int pass(int days) {
            int carriedOut = 0;
            for (int i = 0; i < days; i++) {
                for (Lot lot : lots) {
                    lot.weight -= lot.weight * loss[lot.spice] * damp / 1000;
                }
                for (Order order : orders) {
                    if (follow(order)) {
                        order.done++;
                        carriedOut++;
                    }
                }
                for (int[] row : owed) {
                    for (int b = 0; day % 7 == 6 && b < 6; b++) {
                        row[b] = row[b] == 0 ? 0 : Math.min(99999, row[b] + row[b] / 20 + 1);
                    }
                }
                day++;
            }
            return carriedOut;
        }

        private boolean follow(Order order) {
            if (!test(order.test)) {
                return false;
            }
            switch (order.deed) {
                case "weigh": return weigh(lots.get(order.who), order.whom);
                case "sell": return sell(lots.get(order.who), order.whom, sum(order.sum));
                default: return payBack(order.who, order.whom, sum(order.sum));
            }
        }

        private boolean weigh(Lot lot, int guild) {
            if (coins[lot.owner] < fee[guild]) {
                return false;
            }
            coins[lot.owner] -= fee[guild];
            earned[guild] += fee[guild];
            lot.guild = guild;
            lot.chop = lot.weight - lot.weight * bias[guild] / 100;
            lot.made = day;
            weighed++;
            return true;
        }

        private boolean sell(Lot lot, int buyer, int sum) {
            if (lot.guild < 0 || lot.made < day - 5 || lot.owner == buyer) {
                return false;
            }
            int price = (sum < 0 ? 0 : sum > 999 ? 999 : sum) * lot.chop / 100;
            int inCoins = Math.min(price, coins[buyer]);
            if (debts(buyer) + price - inCoins > credit[buyer]) {
                return false;
            }
            coins[buyer] -= inCoins;
            coins[lot.owner] += inCoins;
            owed[buyer][lot.owner] += price - inCoins;
            lot.owner = buyer;
            sold++;
            return true;
        }

        private boolean payBack(int a, int b, int sum) {
            int many = Math.min(sum, Math.min(owed[a][b], coins[a]));
            if (a == b || many < 1) {
                return false;
            }
            coins[a] -= many;
            coins[b] += many;
            owed[a][b] -= many;
            paid++;
            return true;
        }

        int setDamp(int to) {
            int before = damp;
            damp = to;
            return before;
        }

        Long lend(int a, int b, int many) {
            if (a == b || coins[a] < many || debts(b) + many > credit[b]) {
                return null;
            }
            coins[a] -= many;
            coins[b] += many;
            owed[b][a] += many;
            return (long) owed[b][a];
        }

        int offset(int a, int b) {
            int both = Math.min(owed[a][b], owed[b][a]);
            owed[a][b] -= both;
            owed[b][a] -= both;
            return both;
        }

        int dry(int lot) {
            Lot it = lots.get(lot);
            it.weight -= it.weight / 10;
            it.guild = -1;
            it.chop = 0;
            return it.weight;
        }

        int richest(int days) {
            Model then = copy();
            then.pass(days);
            int best = -1;
            int most = Integer.MIN_VALUE;
            for (int i = 0; i < merchants.size(); i++) {
                int has = then.coins[i] + then.claims(i) - then.debts(i);
                if (has > most) {
                    most = has;
                    best = i;
                }
            }
            return best;
        }

        int until(int merchant) {
            Model then = copy();
            for (int days = 0; days <= 150; days++) {
                if (then.debts(merchant) > credit[merchant]) {
                    return days;
                }
                then.pass(1);
            }
            return -1;
        }

        int chain(int a, int b) {
            return a == b ? 0 : fewest(a, b, 1 << a);
        }

        private int fewest(int a, int b, int seen) {
            int fewest = -1;
            for (int c = 0; c < 6; c++) {
                if (owed[a][c] > 0 && (seen >> c & 1) == 0) {
                    int behind = c == b ? 0 : fewest(c, b, seen | 1 << c);
                    if (behind >= 0 && (fewest < 0 || behind + 1 < fewest)) {
                        fewest = behind + 1;
                    }
                }
            }
            return fewest;
        }

        int ring(int merchant) {
            return widest(merchant, merchant, 1 << merchant, Integer.MAX_VALUE);
        }

        private int widest(int from, int home, int seen, int least) {
            int widest = 0;
            for (int c = 0; c < 6; c++) {
                int then = Math.min(least, owed[from][c]);
                if (then > 0 && c == home) {
                    widest = Math.max(widest, then);
                } else if (then > 0 && (seen >> c & 1) == 0) {
                    widest = Math.max(widest, widest(c, home, seen | 1 << c, then));
                }
            }
            return widest;
        }

        int count(int what) {
            switch (what) {
                case 0: return day;
                case 1: return damp;
                case 2: return spices.size();
                case 3: return guilds.size();
                case 4: return merchants.size();
                case 5: return lots.size();
                case 6: return orders.size();
                case 7: return lots.stream().mapToInt(lot -> lot.weight).sum();
                case 8: return Arrays.stream(owed).flatMapToInt(Arrays::stream).sum();
                case 9: return Arrays.stream(coins).sum();
                case 10: return sold;
                case 11: return weighed;
                case 12: return paid;
                default: return 0;
            }
        }

        long digest() {
            List<Integer> all = new ArrayList<>();
            for (int what = 0; what <= 13; what++) {
                all.add(count(what));
            }
            for (Lot lot : lots) {
                int age = lot.guild < 0 ? 0 : day - lot.made;
                all.addAll(List.of(lot.spice, lot.weight, lot.owner, lot.guild, lot.chop, age,
                        lot.guild >= 0 && age <= 5 ? 1 : 0));
            }
            for (int a = 0; a < merchants.size(); a++) {
                int many = 0;
                int weight = 0;
                for (Lot lot : lots) {
                    many += lot.owner == a ? 1 : 0;
                    weight += lot.owner == a ? lot.weight : 0;
                }
                all.addAll(List.of(coins[a], credit[a], debts(a), claims(a), many, weight));
                for (int b = 0; b < merchants.size(); b++) {
                    all.add(owed[a][b]);
                }
            }
            for (int g = 0; g < guilds.size(); g++) {
                int many = 0;
                for (Lot lot : lots) {
                    many += lot.guild == g ? 1 : 0;
                }
                all.addAll(List.of(fee[g], bias[g], earned[g], many));
            }
            for (int i = 0; i < orders.size(); i++) {
                Order order = orders.get(i);
                int deed = List.of("weigh", "sell", "pay").indexOf(order.deed);
                Model then = copy();
                all.addAll(List.of(deed, order.who, order.whom, then.follow(then.orders.get(i)) ? 1 : 0, order.done));
            }
            long d = 829;
            for (int x : all) {
                d = d * 31 + x;
            }
            return d;
        }
    }
}
