/** A ginger and pepper quay of a strait. */
public final class SpiceQuay {
    private static final int MOST_BYTES = 2000;
    private static final int BYTES_FED = 20;
    private static final int MOST_DAYS = 120;
    private static final int MOST_DAYS_LOOKED_AHEAD = 90;
    private static final int LATEST_DAY_OF_UNTIL = 150;
    private static final int MOST_DAMP = 9;
    private static final int MOST_COINS_LENT = 9999;
    private static final long DIGEST_START = 829;

    private final Row tape;
    private final Tokens tokens;
    private final Reader reader;
    private final Plan plan;
    private final Stand now;
    private final Days days;
    // What would be is tried out on a stand of its own, so that nothing has to be taken back.
    private final Stand ahead;
    private final Days daysAhead;
    private int bytes;
    private int errorPlace;

    public SpiceQuay() {
        tape = new Row(MOST_BYTES);
        tokens = new Tokens(tape);
        reader = new Reader(tokens);
        plan = new Plan();
        now = new Stand(plan);
        days = new Days(plan, now);
        ahead = new Stand(plan);
        daysAhead = new Days(plan, ahead);
        bytes = 0;
        errorPlace = -1;
    }

    // ---- the language

    public int feed(int a, int b, int c, int d, int e) throws IllegalStateException {
        if (bytes > MOST_BYTES - BYTES_FED) {
            throw new IllegalStateException("the tape would have more than 2000 bytes");
        }
        append(a);
        append(b);
        append(c);
        append(d);
        append(e);
        return bytes;
    }

    public int trim(int n) throws IllegalArgumentException {
        if (n < 0 || n > bytes) {
            throw new IllegalArgumentException("n is not 0 to the number of bytes of the tape");
        }
        bytes = n;
        return n;
    }

    public int teach() {
        tokens.scan(bytes);
        int error = reader.read();
        errorPlace = reader.faultPlace();
        bytes = 0;
        if (error == 0) {
            plan.copyFrom(reader.draft);
            now.begin();
        }
        return error;
    }

    public int errorAt() {
        return errorPlace;
    }

    public int count(int what) throws IndexOutOfBoundsException {
        if (what < 0 || what > 13) {
            throw new IndexOutOfBoundsException("what is not 0 to 13");
        }
        return counted(what);
    }

    // ---- what there is

    public int lot(int lot, int what) throws IndexOutOfBoundsException {
        if (!isLot(lot) || what < 0 || what > 6) {
            throw new IndexOutOfBoundsException("no such lot, or what is not 0 to 6");
        }
        return now.tellLot(lot, what);
    }

    public int merchant(int merchant, int what) throws IndexOutOfBoundsException {
        if (!isMerchant(merchant) || what < 0 || what > 5) {
            throw new IndexOutOfBoundsException("no such merchant, or what is not 0 to 5");
        }
        return now.tellMerchant(merchant, what);
    }

    public int guild(int guild, int what) throws IndexOutOfBoundsException {
        if (guild < 0 || guild >= plan.guilds || what < 0 || what > 3) {
            throw new IndexOutOfBoundsException("no such guild, or what is not 0 to 3");
        }
        return now.tellGuild(guild, what);
    }

    public int order(int order, int what) throws IndexOutOfBoundsException {
        if (order < 0 || order >= plan.orders || what < 0 || what > 4) {
            throw new IndexOutOfBoundsException("no such order, or what is not 0 to 4");
        }
        return tellOrder(order, what);
    }

    public int owes(int a, int b) throws IndexOutOfBoundsException {
        if (!isMerchant(a) || !isMerchant(b)) {
            throw new IndexOutOfBoundsException("no such merchant");
        }
        return now.debts.between(a, b);
    }

    public int chain(int a, int b) throws IndexOutOfBoundsException {
        if (!isMerchant(a) || !isMerchant(b)) {
            throw new IndexOutOfBoundsException("no such merchant");
        }
        return now.debts.fewestFromTo(a, b);
    }

    public int ring(int merchant) throws IndexOutOfBoundsException {
        if (!isMerchant(merchant)) {
            throw new IndexOutOfBoundsException("no such merchant");
        }
        return now.debts.widestRing(merchant);
    }

    // ---- by hand

    public int setDamp(int damp) throws IllegalArgumentException {
        if (damp < 0 || damp > MOST_DAMP) {
            throw new IllegalArgumentException("damp is not 0 to 9");
        }
        int before = now.damp;
        now.damp = damp;
        return before;
    }

    public int lend(int a, int b, int coins)
            throws IndexOutOfBoundsException, IllegalArgumentException, IllegalStateException {
        if (!isMerchant(a) || !isMerchant(b)) {
            throw new IndexOutOfBoundsException("no such merchant");
        }
        if (a == b || coins < 1 || coins > MOST_COINS_LENT) {
            throw new IllegalArgumentException("both are the same, or coins is not 1 to 9999");
        }
        if (now.coins.get(a) < coins || now.debts.sumOf(b) + coins > plan.credit.get(b)) {
            throw new IllegalStateException("too few coins, or too little credit");
        }
        now.moveCoins(a, b, coins);
        now.debts.grow(b, a, coins);
        return now.debts.between(b, a);
    }

    public int offset(int a, int b) throws IndexOutOfBoundsException, IllegalArgumentException {
        if (!isMerchant(a) || !isMerchant(b)) {
            throw new IndexOutOfBoundsException("no such merchant");
        }
        if (a == b) {
            throw new IllegalArgumentException("both are the same");
        }
        int both = Math.min(now.debts.between(a, b), now.debts.between(b, a));
        now.debts.grow(a, b, -both);
        now.debts.grow(b, a, -both);
        return both;
    }

    public int dry(int lot) throws IndexOutOfBoundsException {
        if (!isLot(lot)) {
            throw new IndexOutOfBoundsException("no such lot");
        }
        int weight = now.weight.get(lot);
        now.weight.set(lot, weight - weight / 10);
        now.takeChop(lot);
        return now.weight.get(lot);
    }

    // ---- days

    public int pass(int days) throws IllegalArgumentException {
        if (days < 1 || days > MOST_DAYS) {
            throw new IllegalArgumentException("days is not 1 to 120");
        }
        return this.days.goOn(days);
    }

    // ---- what would be

    public int foresee(int days, int what)
            throws IllegalArgumentException, IndexOutOfBoundsException {
        if (days < 1 || days > MOST_DAYS) {
            throw new IllegalArgumentException("days is not 1 to 120");
        }
        if (what != 0 && (what < 7 || what > 12)) {
            throw new IndexOutOfBoundsException("what is not 0 or 7 to 12");
        }
        ahead.copyFrom(now);
        int carriedOut = daysAhead.goOn(days);
        return what == 0 ? carriedOut : ahead.tellAll(what);
    }

    public int costs(int days, int damp) throws IllegalArgumentException {
        if (days < 1 || days > MOST_DAYS_LOOKED_AHEAD || damp < 0 || damp > MOST_DAMP) {
            throw new IllegalArgumentException("days is not 1 to 90, or damp is not 0 to 9");
        }
        ahead.copyFrom(now);
        ahead.damp = damp;
        // No order changes a weight, so the damp alone has to be followed.
        for (int i = 0; i < days; i++) {
            ahead.loseWeight();
        }
        return now.weightOfAll() - ahead.weightOfAll();
    }

    public int richest(int days) throws IllegalArgumentException {
        if (days < 1 || days > MOST_DAYS_LOOKED_AHEAD) {
            throw new IllegalArgumentException("days is not 1 to 90");
        }
        ahead.copyFrom(now);
        daysAhead.goOn(days);
        int best = -1;
        for (int i = 0; i < plan.merchants; i++) {
            if (best < 0 || ahead.wealthOf(i) > ahead.wealthOf(best)) {
                best = i;
            }
        }
        return best;
    }

    public int until(int merchant) throws IndexOutOfBoundsException {
        if (!isMerchant(merchant)) {
            throw new IndexOutOfBoundsException("no such merchant");
        }
        ahead.copyFrom(now);
        for (int i = 0; i < LATEST_DAY_OF_UNTIL; i++) {
            if (ahead.isOverCredit(merchant)) {
                return i;
            }
            daysAhead.goOn(1);
        }
        return ahead.isOverCredit(merchant) ? LATEST_DAY_OF_UNTIL : -1;
    }

    public double mean() {
        return plan.lots > 0 ? (double) now.weightOfAll() / plan.lots : 0;
    }

    public long digest() {
        long d = DIGEST_START;
        for (int what = 0; what <= 13; what++) {
            d = d * 31 + counted(what);
        }
        d = digestOfLots(d);
        d = digestOfMerchants(d);
        d = digestOfGuilds(d);
        return digestOfOrders(d);
    }

    // ---- what the face shares

    private void append(int four) {
        for (int shift = 24; shift >= 0; shift -= 8) {
            tape.set(bytes, (four >>> shift) & 255);
            bytes++;
        }
    }

    private boolean isLot(int lot) {
        return lot >= 0 && lot < plan.lots;
    }

    private boolean isMerchant(int merchant) {
        return merchant >= 0 && merchant < plan.merchants;
    }

    private int counted(int what) {
        switch (what) {
            case 0: return now.day;
            case 1: return now.damp;
            case 2: return plan.spices;
            case 3: return plan.guilds;
            case 4: return plan.merchants;
            case 5: return plan.lots;
            case 6: return plan.orders;
            case 13: return bytes;
            default: return now.tellAll(what);
        }
    }

    private int tellOrder(int order, int what) {
        switch (what) {
            case 0: return plan.deed.get(order);
            case 1: return plan.doer.get(order);
            case 2: return plan.other.get(order);
            case 3: return days.wouldCarryOut(order) ? 1 : 0;
            default: return now.done.get(order);
        }
    }

    private long digestOfLots(long start) {
        long d = start;
        for (int lot = 0; lot < plan.lots; lot++) {
            for (int what = 0; what <= 6; what++) {
                d = d * 31 + now.tellLot(lot, what);
            }
        }
        return d;
    }

    private long digestOfMerchants(long start) {
        long d = start;
        for (int merchant = 0; merchant < plan.merchants; merchant++) {
            for (int what = 0; what <= 5; what++) {
                d = d * 31 + now.tellMerchant(merchant, what);
            }
            for (int other = 0; other < plan.merchants; other++) {
                d = d * 31 + now.debts.between(merchant, other);
            }
        }
        return d;
    }

    private long digestOfGuilds(long start) {
        long d = start;
        for (int guild = 0; guild < plan.guilds; guild++) {
            for (int what = 0; what <= 3; what++) {
                d = d * 31 + now.tellGuild(guild, what);
            }
        }
        return d;
    }

    private long digestOfOrders(long start) {
        long d = start;
        for (int order = 0; order < plan.orders; order++) {
            for (int what = 0; what <= 4; what++) {
                d = d * 31 + tellOrder(order, what);
            }
        }
        return d;
    }

    /**
     * A row of numbers that can't be left: outside of it stands 0, and what is put there is gone.
     * All arrays are kept in here, so that every index is looked at.
     */
    static final class Row {
        private final int[] cells;

        Row(int size) {
            cells = new int[size < 0 ? 0 : size];
        }

        int get(int i) {
            return i >= 0 && i < cells.length ? cells[i] : 0;
        }

        void set(int i, int x) {
            if (i >= 0 && i < cells.length) {
                cells[i] = x;
            }
        }

        void add(int i, int x) {
            if (i >= 0 && i < cells.length) {
                cells[i] += x;
            }
        }

        void fill(int x) {
            for (int i = 0; i < cells.length; i++) {
                cells[i] = x;
            }
        }

        void copyFrom(Row from) {
            for (int i = 0; i < cells.length; i++) {
                cells[i] = from.get(i);
            }
        }

        int sum() {
            int sum = 0;
            for (int i = 0; i < cells.length; i++) {
                sum += cells[i];
            }
            return sum;
        }
    }

    /** The kinds of tokens; the steps of sums and tests bear the kind of the token they come from. */
    static final class Kind {
        /** Each word's place in here is its kind. */
        static final String WORDS = "spice loss guild fee bias merchant coins credit lot of sacks for weigh by sell to pay sum when day damp weight chop age debts owes owns not and or min max ";
        /** Each sign's place in here, and OPEN, make its kind. */
        static final String SIGNS = "()[];,+-*/<>=";

        static final int SPICE = 0;
        static final int LOSS = 1;
        static final int GUILD = 2;
        static final int FEE = 3;
        static final int BIAS = 4;
        static final int MERCHANT = 5;
        static final int COINS = 6;
        static final int CREDIT = 7;
        static final int LOT = 8;
        static final int OF = 9;
        static final int SACKS = 10;
        static final int FOR = 11;
        static final int WEIGH = 12;
        static final int BY = 13;
        static final int SELL = 14;
        static final int TO = 15;
        static final int PAY = 16;
        static final int SUM = 17;
        static final int WHEN = 18;
        static final int DAY = 19;
        static final int DAMP = 20;
        static final int WEIGHT = 21;
        static final int CHOP = 22;
        static final int AGE = 23;
        static final int DEBTS = 24;
        static final int OWES = 25;
        static final int OWNS = 26;
        static final int NOT = 27;
        static final int AND = 28;
        static final int OR = 29;
        static final int MIN = 30;
        static final int MAX = 31;
        static final int OPEN = 32;
        static final int CLOSE = 33;
        static final int OPEN_TEST = 34;
        static final int CLOSE_TEST = 35;
        static final int SEMICOLON = 36;
        static final int COMMA = 37;
        static final int PLUS = 38;
        static final int MINUS = 39;
        static final int TIMES = 40;
        static final int OVER = 41;
        static final int LESS = 42;
        static final int MORE = 43;
        static final int EQUAL = 44;
        static final int AT_MOST = 45;
        static final int AT_LEAST = 46;
        static final int NAME = 47;
        static final int NUMBER = 48;
        static final int END = 49;
        /** Stands for what can't be read; no line takes it. */
        static final int NOTHING = 50;
        /** A minus in front; only a step has this kind. */
        static final int NEGATE = 51;

        private Kind() {
        }

        static boolean joinsTests(int kind) {
            return kind == AND || kind == OR;
        }

        static boolean compares(int kind) {
            return kind >= LESS && kind <= AT_LEAST;
        }

        static boolean joinsSums(int kind) {
            return kind >= PLUS && kind <= OVER || kind == MIN || kind == MAX;
        }
    }

    /** The tape, cut into tokens. */
    static final class Tokens {
        static final int MOST = 400;
        private static final int LONGEST_WORD = 10;
        private static final int LONGEST_NUMBER = 6;

        private final Row tape;
        private int bytes;
        private int found;
        // One longer than a list can be, for the end of the tape or for what can't be read.
        final Row kind;
        final Row place;
        private final Row length;
        /** Of a number what it is; of a name the first token with the same name. */
        final Row value;

        Tokens(Row tape) {
            this.tape = tape;
            kind = new Row(MOST + 1);
            place = new Row(MOST + 1);
            length = new Row(MOST + 1);
            value = new Row(MOST + 1);
            bytes = 0;
            found = 0;
        }

        void scan(int bytes) {
            this.bytes = bytes;
            found = 0;
            int at = behindBlanks(0);
            for (int i = 0; i < MOST && at < bytes && reads(at); i++) {
                at = behindBlanks(at + length.get(found - 1));
            }
            add(at < bytes ? Kind.NOTHING : Kind.END, at, 0, 0);
        }

        private int behindBlanks(int from) {
            int at = from;
            while (at < bytes && (tape.get(at) == ' ' || tape.get(at) == '\n')) {
                at++;
            }
            return at;
        }

        private boolean reads(int at) {
            int first = tape.get(at);
            if (isLetter(first)) {
                return readsWord(at);
            }
            return isDigit(first) ? readsNumber(at) : readsSign(at, first);
        }

        private boolean readsWord(int at) {
            int end = at + 1;
            while (end < bytes && (isLetter(tape.get(end)) || isDigit(tape.get(end)))) {
                end++;
            }
            if (end - at > LONGEST_WORD) {
                return false;
            }
            int word = keyword(at, end - at);
            add(word, at, end - at, word == Kind.NAME ? firstWithName(at, end - at) : 0);
            return true;
        }

        private boolean readsNumber(int at) {
            int end = at;
            int number = 0;
            while (end < bytes && isDigit(tape.get(end))) {
                number = number * 10 + tape.get(end) - '0';
                end++;
            }
            if (end - at > LONGEST_NUMBER) {
                return false;
            }
            add(Kind.NUMBER, at, end - at, number);
            return true;
        }

        private boolean readsSign(int at, int first) {
            int sign = Kind.SIGNS.indexOf((char) first);
            if (sign < 0) {
                return false;
            }
            boolean equalFollows = at + 1 < bytes && tape.get(at + 1) == '=';
            if (first == '<' && equalFollows) {
                add(Kind.AT_MOST, at, 2, 0);
            } else if (first == '>' && equalFollows) {
                add(Kind.AT_LEAST, at, 2, 0);
            } else {
                add(Kind.OPEN + sign, at, 1, 0);
            }
            return true;
        }

        private int keyword(int at, int size) {
            int word = 0;
            int start = 0;
            for (int i = 0; i < Kind.WORDS.length(); i++) {
                if (Kind.WORDS.charAt(i) == ' ') {
                    if (i - start == size && spells(start, at, size)) {
                        return word;
                    }
                    word++;
                    start = i + 1;
                }
            }
            return Kind.NAME;
        }

        private boolean spells(int start, int at, int size) {
            for (int i = 0; i < size; i++) {
                if (start + i >= Kind.WORDS.length()
                        || Kind.WORDS.charAt(start + i) != tape.get(at + i)) {
                    return false;
                }
            }
            return true;
        }

        private int firstWithName(int at, int size) {
            for (int i = 0; i < found; i++) {
                if (kind.get(i) == Kind.NAME && length.get(i) == size
                        && isSame(place.get(i), at, size)) {
                    return i;
                }
            }
            return found;
        }

        private boolean isSame(int one, int other, int size) {
            for (int i = 0; i < size; i++) {
                if (tape.get(one + i) != tape.get(other + i)) {
                    return false;
                }
            }
            return true;
        }

        private void add(int kind, int at, int size, int value) {
            this.kind.set(found, kind);
            place.set(found, at);
            length.set(found, size);
            this.value.set(found, value);
            found++;
        }

        private static boolean isLetter(int b) {
            return b >= 'a' && b <= 'z';
        }

        private static boolean isDigit(int b) {
            return b >= '0' && b <= '9';
        }
    }

    /** The names of one sort, in the order in which they are told. */
    static final class Names {
        private final Row names;
        private final int most;
        private int told;

        Names(int most) {
            this.most = most;
            names = new Row(most);
            told = 0;
        }

        void forget() {
            told = 0;
        }

        int told() {
            return told;
        }

        boolean isFull() {
            return told >= most;
        }

        int find(int name) {
            for (int i = 0; i < told; i++) {
                if (names.get(i) == name) {
                    return i;
                }
            }
            return -1;
        }

        int add(int name) {
            names.set(told, name);
            told++;
            return told - 1;
        }
    }

    /** Sums and tests, each as a row of steps behind what they work on. */
    static final class Steps {
        // No step comes without a token of its own.
        static final int MOST = Tokens.MOST;

        int told;
        final Row kind;
        final Row one;
        final Row other;

        Steps() {
            told = 0;
            kind = new Row(MOST);
            one = new Row(MOST);
            other = new Row(MOST);
        }

        void add(int kind, int one, int other) {
            this.kind.set(told, kind);
            this.one.set(told, one);
            this.other.set(told, other);
            told++;
        }

        void copyFrom(Steps from) {
            told = from.told;
            kind.copyFrom(from.kind);
            one.copyFrom(from.one);
            other.copyFrom(from.other);
        }
    }

    /** What a list tells; nothing but another list changes it. */
    static final class Plan {
        static final int MOST_SPICES = 4;
        static final int MOST_GUILDS = 4;
        static final int MOST_MERCHANTS = 6;
        static final int MOST_LOTS = 10;
        static final int MOST_ORDERS = 24;
        static final int WEIGHS = 0;
        static final int SELLS = 1;
        static final int PAYS = 2;

        int spices;
        int guilds;
        int merchants;
        int lots;
        int orders;
        final Row loss;
        final Row fee;
        final Row bias;
        final Row coins;
        final Row credit;
        final Row spice;
        final Row sacks;
        final Row owner;
        final Row deed;
        /** The lot of an order, or the one who pays. */
        final Row doer;
        /** The guild, the buyer, or the one who is paid. */
        final Row other;
        /** The steps of an order's sum begin here and end where those of its test begin. */
        final Row sumFrom;
        final Row testFrom;
        final Row testEnd;
        final Steps steps;

        Plan() {
            loss = new Row(MOST_SPICES);
            fee = new Row(MOST_GUILDS);
            bias = new Row(MOST_GUILDS);
            coins = new Row(MOST_MERCHANTS);
            credit = new Row(MOST_MERCHANTS);
            spice = new Row(MOST_LOTS);
            sacks = new Row(MOST_LOTS);
            owner = new Row(MOST_LOTS);
            deed = new Row(MOST_ORDERS);
            doer = new Row(MOST_ORDERS);
            other = new Row(MOST_ORDERS);
            sumFrom = new Row(MOST_ORDERS);
            testFrom = new Row(MOST_ORDERS);
            testEnd = new Row(MOST_ORDERS);
            steps = new Steps();
        }

        void copyFrom(Plan from) {
            spices = from.spices;
            guilds = from.guilds;
            merchants = from.merchants;
            lots = from.lots;
            orders = from.orders;
            loss.copyFrom(from.loss);
            fee.copyFrom(from.fee);
            bias.copyFrom(from.bias);
            coins.copyFrom(from.coins);
            credit.copyFrom(from.credit);
            spice.copyFrom(from.spice);
            sacks.copyFrom(from.sacks);
            owner.copyFrom(from.owner);
            deed.copyFrom(from.deed);
            doer.copyFrom(from.doer);
            other.copyFrom(from.other);
            sumFrom.copyFrom(from.sumFrom);
            testFrom.copyFrom(from.testFrom);
            testEnd.copyFrom(from.testEnd);
            steps.copyFrom(from.steps);
        }
    }

    /**
     * Reads the tokens as a list, into a draft: an error may come late, and what was told before
     * has to stay then. Errors 2 to 5 don't stop the reading, for an error 1 behind them counts more.
     */
    static final class Reader {
        private static final int UNREADABLE = 1;
        private static final int TOLD_TWICE = 2;
        private static final int NOT_TOLD = 3;
        private static final int TOO_MANY = 4;
        private static final int OUT_OF_RANGE = 5;
        private static final int MOST_DEPTH = 8;

        final Plan draft;
        private final Tokens tokens;
        private final Names spices;
        private final Names guilds;
        private final Names merchants;
        private final Names lots;
        private int next;
        private int fault;
        private int faultToken;

        Reader(Tokens tokens) {
            this.tokens = tokens;
            draft = new Plan();
            spices = new Names(Plan.MOST_SPICES);
            guilds = new Names(Plan.MOST_GUILDS);
            merchants = new Names(Plan.MOST_MERCHANTS);
            lots = new Names(Plan.MOST_LOTS);
            next = 0;
            fault = 0;
            faultToken = 0;
        }

        int faultPlace() {
            return fault == 0 ? -1 : tokens.place.get(faultToken);
        }

        int read() {
            begin();
            for (int i = 0; i < Tokens.MOST && fault != UNREADABLE && seen() != Kind.END; i++) {
                switch (seen()) {
                    case Kind.SPICE: spiceLine(); break;
                    case Kind.GUILD: guildLine(); break;
                    case Kind.MERCHANT: merchantLine(); break;
                    case Kind.LOT: lotLine(); break;
                    case Kind.WEIGH: orderLine(Plan.WEIGHS); break;
                    case Kind.SELL: orderLine(Plan.SELLS); break;
                    case Kind.PAY: orderLine(Plan.PAYS); break;
                    default: fail();
                }
                take(Kind.SEMICOLON);
            }
            draft.spices = spices.told();
            draft.guilds = guilds.told();
            draft.merchants = merchants.told();
            draft.lots = lots.told();
            return fault;
        }

        private void begin() {
            next = 0;
            fault = 0;
            faultToken = 0;
            spices.forget();
            guilds.forget();
            merchants.forget();
            lots.forget();
            draft.orders = 0;
            draft.steps.told = 0;
        }

        private void spiceLine() {
            take(Kind.SPICE);
            int spice = takeNewName(spices);
            take(Kind.LOSS);
            draft.loss.set(spice, takeNumber(0, 9));
        }

        private void guildLine() {
            take(Kind.GUILD);
            int guild = takeNewName(guilds);
            take(Kind.FEE);
            draft.fee.set(guild, takeNumber(0, 99));
            take(Kind.BIAS);
            draft.bias.set(guild, takeNumber(0, 20));
        }

        private void merchantLine() {
            take(Kind.MERCHANT);
            int merchant = takeNewName(merchants);
            take(Kind.COINS);
            draft.coins.set(merchant, takeNumber(0, 9999));
            take(Kind.CREDIT);
            draft.credit.set(merchant, takeNumber(0, 9999));
        }

        private void lotLine() {
            take(Kind.LOT);
            int lot = takeNewName(lots);
            take(Kind.OF);
            draft.spice.set(lot, takeName(spices));
            take(Kind.SACKS);
            draft.sacks.set(lot, takeNumber(1, 90));
            take(Kind.FOR);
            draft.owner.set(lot, takeName(merchants));
        }

        private void orderLine(int deed) {
            int order = draft.orders;
            if (order >= Plan.MOST_ORDERS) {
                blame(TOO_MANY, next);
            }
            next++;
            draft.deed.set(order, deed);
            draft.doer.set(order, takeName(deed == Plan.PAYS ? merchants : lots));
            take(deed == Plan.WEIGHS ? Kind.BY : Kind.TO);
            draft.other.set(order, takeName(deed == Plan.WEIGHS ? guilds : merchants));
            draft.sumFrom.set(order, draft.steps.told);
            if (deed != Plan.WEIGHS) {
                take(Kind.SUM);
                sum(0);
            }
            draft.testFrom.set(order, draft.steps.told);
            if (seen() == Kind.WHEN) {
                next++;
                test(0);
            }
            draft.testEnd.set(order, draft.steps.told);
            draft.orders++;
        }

        private void test(int depth) {
            both(depth);
            for (int i = 0; i < Tokens.MOST && seen() == Kind.OR; i++) {
                next++;
                both(depth);
                draft.steps.add(Kind.OR, 0, 0);
            }
        }

        private void both(int depth) {
            single(depth);
            for (int i = 0; i < Tokens.MOST && seen() == Kind.AND; i++) {
                next++;
                single(depth);
                draft.steps.add(Kind.AND, 0, 0);
            }
        }

        private void single(int depth) {
            switch (seen()) {
                case Kind.NOT: turnedTest(depth); break;
                case Kind.OPEN_TEST: testInBrackets(depth); break;
                case Kind.OWNS:
                    next++;
                    int owner = takeName(merchants);
                    draft.steps.add(Kind.OWNS, owner, takeName(lots));
                    break;
                default:
                    sum(depth);
                    int kind = takeComparison();
                    sum(depth);
                    draft.steps.add(kind, 0, 0);
            }
        }

        private void turnedTest(int depth) {
            if (goesDeeper(Kind.NOT, depth)) {
                single(depth + 1);
                draft.steps.add(Kind.NOT, 0, 0);
            }
        }

        private void testInBrackets(int depth) {
            if (goesDeeper(Kind.OPEN_TEST, depth)) {
                test(depth + 1);
                take(Kind.CLOSE_TEST);
            }
        }

        private void sum(int depth) {
            product(depth);
            int kind = seen();
            for (int i = 0; i < Tokens.MOST && (kind == Kind.PLUS || kind == Kind.MINUS); i++) {
                next++;
                product(depth);
                draft.steps.add(kind, 0, 0);
                kind = seen();
            }
        }

        private void product(int depth) {
            value(depth);
            int kind = seen();
            for (int i = 0; i < Tokens.MOST && (kind == Kind.TIMES || kind == Kind.OVER); i++) {
                next++;
                value(depth);
                draft.steps.add(kind, 0, 0);
                kind = seen();
            }
        }

        private void value(int depth) {
            int kind = seen();
            switch (kind) {
                case Kind.NUMBER:
                    draft.steps.add(kind, takeNumber(0, Integer.MAX_VALUE), 0);
                    break;
                case Kind.DAY:
                case Kind.DAMP:
                    next++;
                    draft.steps.add(kind, 0, 0);
                    break;
                case Kind.WEIGHT:
                case Kind.CHOP:
                case Kind.AGE:
                    next++;
                    draft.steps.add(kind, takeName(lots), 0);
                    break;
                case Kind.COINS:
                case Kind.DEBTS:
                    next++;
                    draft.steps.add(kind, takeName(merchants), 0);
                    break;
                case Kind.OWES:
                    next++;
                    int debtor = takeName(merchants);
                    draft.steps.add(kind, debtor, takeName(merchants));
                    break;
                case Kind.MINUS: turnedValue(depth); break;
                case Kind.OPEN: sumInBrackets(depth); break;
                case Kind.MIN:
                case Kind.MAX: oneOfTwoSums(kind, depth); break;
                default: fail();
            }
        }

        private void turnedValue(int depth) {
            if (goesDeeper(Kind.MINUS, depth)) {
                value(depth + 1);
                draft.steps.add(Kind.NEGATE, 0, 0);
            }
        }

        private void sumInBrackets(int depth) {
            if (goesDeeper(Kind.OPEN, depth)) {
                sum(depth + 1);
                take(Kind.CLOSE);
            }
        }

        private void oneOfTwoSums(int kind, int depth) {
            next++;
            if (goesDeeper(Kind.OPEN, depth)) {
                sum(depth + 1);
                take(Kind.COMMA);
                sum(depth + 1);
                take(Kind.CLOSE);
                draft.steps.add(kind, 0, 0);
            }
        }

        /** Behind an error 1 nothing is seen any more, so that all that reads comes to its end. */
        private int seen() {
            return fault == UNREADABLE ? Kind.NOTHING : tokens.kind.get(next);
        }

        private void take(int kind) {
            if (seen() == kind) {
                next++;
            } else {
                fail();
            }
        }

        private boolean goesDeeper(int kind, int depth) {
            if (depth >= MOST_DEPTH || seen() != kind) {
                fail();
                return false;
            }
            next++;
            return true;
        }

        private int takeComparison() {
            int kind = seen();
            if (Kind.compares(kind)) {
                next++;
            } else {
                fail();
            }
            return kind;
        }

        private int takeNewName(Names names) {
            if (seen() != Kind.NAME) {
                fail();
                return -1;
            }
            int token = next;
            next++;
            int name = tokens.value.get(token);
            if (names.find(name) >= 0) {
                blame(TOLD_TWICE, token);
                return -1;
            }
            if (names.isFull()) {
                blame(TOO_MANY, token);
                return -1;
            }
            return names.add(name);
        }

        private int takeName(Names names) {
            if (seen() != Kind.NAME) {
                fail();
                return -1;
            }
            int token = next;
            next++;
            int found = names.find(tokens.value.get(token));
            if (found < 0) {
                blame(NOT_TOLD, token);
            }
            return found;
        }

        private int takeNumber(int least, int most) {
            if (seen() != Kind.NUMBER) {
                fail();
                return 0;
            }
            int token = next;
            next++;
            int number = tokens.value.get(token);
            if (number < least || number > most) {
                blame(OUT_OF_RANGE, token);
            }
            return number;
        }

        private void blame(int error, int token) {
            if (fault == 0) {
                fault = error;
                faultToken = token;
            }
        }

        private void fail() {
            if (fault != UNREADABLE) {
                fault = UNREADABLE;
                faultToken = next;
            }
        }
    }

    /** Who owes whom how much. */
    static final class Debts {
        private static final int SIDE = Plan.MOST_MERCHANTS;
        private static final int MOST = 99999;

        private final Row owed;
        // Used anew by each search.
        private final Row reached;

        Debts() {
            owed = new Row(SIDE * SIDE);
            reached = new Row(SIDE);
        }

        void forget() {
            owed.fill(0);
        }

        void copyFrom(Debts from) {
            owed.copyFrom(from.owed);
        }

        int between(int a, int b) {
            return owed.get(a * SIDE + b);
        }

        void grow(int a, int b, int by) {
            owed.set(a * SIDE + b, Math.min(MOST, owed.get(a * SIDE + b) + by));
        }

        void growAll() {
            for (int i = 0; i < SIDE * SIDE; i++) {
                int debt = owed.get(i);
                if (debt >= 1) {
                    owed.set(i, Math.min(MOST, debt + debt / 20 + 1));
                }
            }
        }

        int sumOf(int a) {
            int sum = 0;
            for (int b = 0; b < SIDE; b++) {
                sum += owed.get(a * SIDE + b);
            }
            return sum;
        }

        int sumOwedTo(int b) {
            int sum = 0;
            for (int a = 0; a < SIDE; a++) {
                sum += owed.get(a * SIDE + b);
            }
            return sum;
        }

        int sumOfAll() {
            return owed.sum();
        }

        int fewestFromTo(int a, int b) {
            reached.fill(-1);
            reached.set(a, 0);
            for (int debts = 1; debts < SIDE; debts++) {
                reachBy(debts);
            }
            return reached.get(b);
        }

        private void reachBy(int debts) {
            for (int a = 0; a < SIDE; a++) {
                for (int b = 0; b < SIDE; b++) {
                    if (reached.get(a) == debts - 1 && reached.get(b) < 0 && between(a, b) > 0) {
                        reached.set(b, debts);
                    }
                }
            }
        }

        /**
         * A way that comes to one twice can leave out what lies between, and its least debt is no
         * less then; so all ways can be looked at for the widest, in the place of rings alone.
         */
        int widestRing(int merchant) {
            for (int b = 0; b < SIDE; b++) {
                reached.set(b, between(merchant, b));
            }
            for (int debts = 2; debts < SIDE; debts++) {
                widen();
            }
            int widest = 0;
            for (int a = 0; a < SIDE; a++) {
                widest = Math.max(widest, Math.min(reached.get(a), between(a, merchant)));
            }
            return widest;
        }

        private void widen() {
            for (int a = 0; a < SIDE; a++) {
                for (int b = 0; b < SIDE; b++) {
                    int width = Math.min(reached.get(a), between(a, b));
                    reached.set(b, Math.max(reached.get(b), width));
                }
            }
        }
    }

    /** How all stands on a day. */
    static final class Stand {
        private static final int WEIGHT_OF_A_SACK = 100;
        private static final int DAYS_OF_A_CHOP = 5;
        private static final int DAMP_AT_FIRST = 3;

        private final Plan plan;
        int day;
        int damp;
        int sold;
        int weighed;
        int paid;
        final Row weight;
        final Row owner;
        private final Row chopGuild;
        final Row chopWeight;
        private final Row chopDay;
        final Row coins;
        final Debts debts;
        final Row earned;
        final Row done;

        Stand(Plan plan) {
            this.plan = plan;
            day = 0;
            damp = DAMP_AT_FIRST;
            weight = new Row(Plan.MOST_LOTS);
            owner = new Row(Plan.MOST_LOTS);
            chopGuild = new Row(Plan.MOST_LOTS);
            chopWeight = new Row(Plan.MOST_LOTS);
            chopDay = new Row(Plan.MOST_LOTS);
            coins = new Row(Plan.MOST_MERCHANTS);
            debts = new Debts();
            earned = new Row(Plan.MOST_GUILDS);
            done = new Row(Plan.MOST_ORDERS);
        }

        void begin() {
            sold = 0;
            weighed = 0;
            paid = 0;
            // What an earlier list told may be longer; its lots and merchants must not be added up.
            weight.fill(0);
            coins.fill(0);
            for (int lot = 0; lot < plan.lots; lot++) {
                weight.set(lot, plan.sacks.get(lot) * WEIGHT_OF_A_SACK);
                owner.set(lot, plan.owner.get(lot));
                takeChop(lot);
            }
            for (int merchant = 0; merchant < plan.merchants; merchant++) {
                coins.set(merchant, plan.coins.get(merchant));
            }
            debts.forget();
            earned.fill(0);
            done.fill(0);
        }

        void copyFrom(Stand from) {
            day = from.day;
            damp = from.damp;
            sold = from.sold;
            weighed = from.weighed;
            paid = from.paid;
            weight.copyFrom(from.weight);
            owner.copyFrom(from.owner);
            chopGuild.copyFrom(from.chopGuild);
            chopWeight.copyFrom(from.chopWeight);
            chopDay.copyFrom(from.chopDay);
            coins.copyFrom(from.coins);
            debts.copyFrom(from.debts);
            earned.copyFrom(from.earned);
            done.copyFrom(from.done);
        }

        void loseWeight() {
            for (int lot = 0; lot < plan.lots; lot++) {
                int now = weight.get(lot);
                int loss = plan.loss.get(plan.spice.get(lot));
                weight.set(lot, now - now * loss * damp / 1000);
            }
        }

        void moveCoins(int from, int to, int many) {
            coins.add(from, -many);
            coins.add(to, many);
        }

        void setChop(int lot, int guild, int itsWeight) {
            chopGuild.set(lot, guild);
            chopWeight.set(lot, itsWeight);
            chopDay.set(lot, day);
        }

        void takeChop(int lot) {
            chopGuild.set(lot, -1);
            chopWeight.set(lot, 0);
            chopDay.set(lot, 0);
        }

        int ageOfChop(int lot) {
            return chopGuild.get(lot) < 0 ? 0 : day - chopDay.get(lot);
        }

        boolean canBeSold(int lot) {
            return chopGuild.get(lot) >= 0 && day - chopDay.get(lot) <= DAYS_OF_A_CHOP;
        }

        boolean isOverCredit(int merchant) {
            return debts.sumOf(merchant) > plan.credit.get(merchant);
        }

        int wealthOf(int merchant) {
            return coins.get(merchant) + debts.sumOwedTo(merchant) - debts.sumOf(merchant);
        }

        int weightOfAll() {
            return weight.sum();
        }

        int tellAll(int what) {
            switch (what) {
                case 7: return weightOfAll();
                case 8: return debts.sumOfAll();
                case 9: return coins.sum();
                case 10: return sold;
                case 11: return weighed;
                default: return paid;
            }
        }

        int tellLot(int lot, int what) {
            switch (what) {
                case 0: return plan.spice.get(lot);
                case 1: return weight.get(lot);
                case 2: return owner.get(lot);
                case 3: return chopGuild.get(lot);
                case 4: return chopWeight.get(lot);
                case 5: return ageOfChop(lot);
                default: return canBeSold(lot) ? 1 : 0;
            }
        }

        int tellMerchant(int merchant, int what) {
            switch (what) {
                case 0: return coins.get(merchant);
                case 1: return plan.credit.get(merchant);
                case 2: return debts.sumOf(merchant);
                case 3: return debts.sumOwedTo(merchant);
                case 4: return lotsOf(merchant);
                default: return weightOfLotsOf(merchant);
            }
        }

        int tellGuild(int guild, int what) {
            switch (what) {
                case 0: return plan.fee.get(guild);
                case 1: return plan.bias.get(guild);
                case 2: return earned.get(guild);
                default: return lotsWithChopOf(guild);
            }
        }

        private int lotsOf(int merchant) {
            int lots = 0;
            for (int lot = 0; lot < plan.lots; lot++) {
                if (owner.get(lot) == merchant) {
                    lots++;
                }
            }
            return lots;
        }

        private int weightOfLotsOf(int merchant) {
            int sum = 0;
            for (int lot = 0; lot < plan.lots; lot++) {
                if (owner.get(lot) == merchant) {
                    sum += weight.get(lot);
                }
            }
            return sum;
        }

        private int lotsWithChopOf(int guild) {
            int lots = 0;
            for (int lot = 0; lot < plan.lots; lot++) {
                if (chopGuild.get(lot) == guild) {
                    lots++;
                }
            }
            return lots;
        }
    }

    /** Reckons the steps of sums and tests as all stands; a test that holds is 1, another one 0. */
    static final class Reckoner {
        private final Steps steps;
        private final Stand stand;
        private final Row heap;
        private int height;

        Reckoner(Steps steps, Stand stand) {
            this.steps = steps;
            this.stand = stand;
            heap = new Row(Steps.MOST);
            height = 0;
        }

        int reckon(int from, int to) {
            height = 0;
            for (int i = from; i < to; i++) {
                int kind = steps.kind.get(i);
                if (kind == Kind.NEGATE) {
                    put(-take());
                } else if (kind == Kind.NOT) {
                    put(1 - take());
                } else if (Kind.joinsSums(kind)) {
                    int right = take();
                    put(joined(kind, take(), right));
                } else if (Kind.compares(kind)) {
                    int right = take();
                    put(holds(kind, take(), right) ? 1 : 0);
                } else if (Kind.joinsTests(kind)) {
                    int right = take();
                    put(kind == Kind.AND ? take() & right : take() | right);
                } else {
                    put(value(kind, steps.one.get(i), steps.other.get(i)));
                }
            }
            return take();
        }

        private void put(int x) {
            heap.set(height, x);
            height++;
        }

        private int take() {
            height--;
            return heap.get(height);
        }

        private int value(int kind, int one, int other) {
            switch (kind) {
                case Kind.DAY: return stand.day;
                case Kind.DAMP: return stand.damp;
                case Kind.WEIGHT: return stand.weight.get(one);
                case Kind.CHOP: return stand.chopWeight.get(one);
                case Kind.AGE: return stand.ageOfChop(one);
                case Kind.COINS: return stand.coins.get(one);
                case Kind.DEBTS: return stand.debts.sumOf(one);
                case Kind.OWES: return stand.debts.between(one, other);
                case Kind.OWNS: return stand.owner.get(other) == one ? 1 : 0;
                default: return one;
            }
        }

        private static int joined(int kind, int left, int right) {
            switch (kind) {
                case Kind.PLUS: return left + right;
                case Kind.MINUS: return left - right;
                case Kind.TIMES: return left * right;
                case Kind.OVER: return right == 0 ? 0 : left / right;
                case Kind.MIN: return Math.min(left, right);
                default: return Math.max(left, right);
            }
        }

        private static boolean holds(int kind, int left, int right) {
            switch (kind) {
                case Kind.LESS: return left < right;
                case Kind.MORE: return left > right;
                case Kind.EQUAL: return left == right;
                case Kind.AT_MOST: return left <= right;
                default: return left >= right;
            }
        }
    }

    /** How days go by on a stand. */
    static final class Days {
        private static final int MOST_OF_A_SUM = 999;

        private final Plan plan;
        private final Stand stand;
        private final Reckoner reckoner;

        Days(Plan plan, Stand stand) {
            this.plan = plan;
            this.stand = stand;
            reckoner = new Reckoner(plan.steps, stand);
        }

        int goOn(int days) {
            int carriedOut = 0;
            for (int i = 0; i < days; i++) {
                stand.loseWeight();
                carriedOut += followOrders();
                if (stand.day % 7 == 6) {
                    stand.debts.growAll();
                }
                stand.day++;
            }
            return carriedOut;
        }

        private int followOrders() {
            int carriedOut = 0;
            for (int order = 0; order < plan.orders; order++) {
                if (wouldCarryOut(order)) {
                    carryOut(order);
                    carriedOut++;
                }
            }
            return carriedOut;
        }

        boolean wouldCarryOut(int order) {
            int testFrom = plan.testFrom.get(order);
            int testEnd = plan.testEnd.get(order);
            if (testFrom < testEnd && reckoner.reckon(testFrom, testEnd) == 0) {
                return false;
            }
            int sum = reckoner.reckon(plan.sumFrom.get(order), testFrom);
            int doer = plan.doer.get(order);
            int other = plan.other.get(order);
            switch (plan.deed.get(order)) {
                case Plan.WEIGHS: return canWeigh(doer, other);
                case Plan.SELLS: return canSell(doer, other, sum);
                default: return due(doer, other, sum) >= 1;
            }
        }

        private void carryOut(int order) {
            int sum = reckoner.reckon(plan.sumFrom.get(order), plan.testFrom.get(order));
            int doer = plan.doer.get(order);
            int other = plan.other.get(order);
            switch (plan.deed.get(order)) {
                case Plan.WEIGHS: weigh(doer, other); break;
                case Plan.SELLS: sell(doer, other, sum); break;
                default: payBack(doer, other, sum);
            }
            stand.done.add(order, 1);
        }

        private boolean canWeigh(int lot, int guild) {
            return stand.coins.get(stand.owner.get(lot)) >= plan.fee.get(guild);
        }

        private void weigh(int lot, int guild) {
            int fee = plan.fee.get(guild);
            int weight = stand.weight.get(lot);
            stand.coins.add(stand.owner.get(lot), -fee);
            stand.earned.add(guild, fee);
            stand.setChop(lot, guild, weight - weight * plan.bias.get(guild) / 100);
            stand.weighed++;
        }

        private boolean canSell(int lot, int buyer, int sum) {
            if (!stand.canBeSold(lot) || stand.owner.get(lot) == buyer) {
                return false;
            }
            int rest = Math.max(0, price(lot, sum) - stand.coins.get(buyer));
            return stand.debts.sumOf(buyer) + rest <= plan.credit.get(buyer);
        }

        private void sell(int lot, int buyer, int sum) {
            int seller = stand.owner.get(lot);
            int price = price(lot, sum);
            int inCoins = Math.min(price, stand.coins.get(buyer));
            stand.moveCoins(buyer, seller, inCoins);
            stand.debts.grow(buyer, seller, price - inCoins);
            stand.owner.set(lot, buyer);
            stand.sold++;
        }

        private int price(int lot, int sum) {
            int held = Math.max(0, Math.min(MOST_OF_A_SUM, sum));
            return held * stand.chopWeight.get(lot) / 100;
        }

        private int due(int payer, int paid, int sum) {
            // One owes nothing to oneself, so both are different where anything is due.
            int owed = stand.debts.between(payer, paid);
            return Math.min(sum, Math.min(owed, stand.coins.get(payer)));
        }

        private void payBack(int payer, int paid, int sum) {
            int coins = due(payer, paid, sum);
            stand.moveCoins(payer, paid, coins);
            stand.debts.grow(payer, paid, -coins);
            stand.paid++;
        }
    }
}
