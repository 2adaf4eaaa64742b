/** For each week a list of what was bought most, from shops that tell late or not at all. */
public final class MostSold {
    public static final int NONE = -1, BAD = -2, NOT = -3, FULL = -4;

    private static final int WEEKS = 52;
    private static final int LAST_WEEK = 51;
    private static final int HOURS = 168;
    private static final int DAY = 24;

    private static final int MOST_TITLES = 12;
    private static final int MOST_THINGS = 24;
    private static final int MOST_SHOPS = 16;
    private static final int MOST_SALES = 150;
    private static final int KINDS = 4;
    private static final int FORMS = 4;

    private static final int MOST_MADE = 1000000;
    private static final int MOST_SIZE = 100;
    private static final int MOST_AT_ONCE = 100000;
    private static final int USUAL_PRICE = 10;
    private static final int MOST_PRICE = 1000;
    private static final int MOST_PURSE = 16000;
    private static final int MOST_SURE = 1000000;
    private static final int NO_DETAIL = -1000;

    private static final int SOLD = 0, HEARD = 1, BUNDLED = 2, RETURNED = 3;
    private static final int SHUT = 0, SILENT = 1, TELLING = 2;
    private static final int SALE_ITEMS = 7;

    private static final int LATER_FIRST = 1, SHARED = 2;

    private static final int ITEMS = 15;
    private static final int HEARD_FOR_ONE = 0, BUNDLES = 1, RETURN_AHEAD = 2, LATEST = 3;
    private static final int FIRST_HOUR = 4, LAST_HOUR = 5, FORM_SHARE = 6, KIND_SHARE = 10, TIES = 14;

    private static final int NULL_FOUND = 1, INDEX_FOUND = 2, CAST_FOUND = 3, STORE_FOUND = 4, SIZE_FOUND = 5;

    private final Trade trade;
    private final Ledger ledger;
    private final Rules rules;
    private final Tally tally;
    private final Habits habits;
    private final Doubts doubts;
    private final Errand errand;
    private final Sheets sheets;
    private final int[] placesBefore;

    public MostSold() {
        trade = new Trade();
        ledger = new Ledger();
        rules = new Rules();
        tally = new Tally(trade, ledger, rules);
        habits = new Habits(ledger, rules);
        doubts = new Doubts(trade, ledger);
        errand = new Errand();
        sheets = new Sheets();
        placesBefore = new int[MOST_TITLES];
    }

    // ---- titles, things, shops

    public int title(int out) {
        if (!isWeek(out)) {
            return BAD;
        }
        return trade.addTitle(out);
    }

    public int thing(int title, int form, int made) {
        if (!trade.isTitle(title) || !within(form, 0, FORMS - 1) || !within(made, 0, MOST_MADE)) {
            return BAD;
        }
        return trade.addThing(title, form, made);
    }

    public int shop(int kind, int size, int from, int to) {
        if (!within(kind, 0, KINDS - 1) || !within(size, 1, MOST_SIZE)) {
            return BAD;
        }
        if (!isWeek(from) || !isWeek(to) || from > to) {
            return BAD;
        }
        return trade.addShop(kind, size, from, to);
    }

    public int tells(int shop, int week) {
        if (!trade.isShop(shop) || !isWeek(week)) {
            return BAD;
        }
        tally.gather(week, week);
        return tally.state[shop];
    }

    public int empty(int shop, int week, int told) {
        if (!trade.isShop(shop) || !isWeek(week) || !isWeek(told) || told < week) {
            return BAD;
        }
        return trade.sayEmpty(shop, week, told);
    }

    public int coins(int shop, int c) {
        if (!trade.isShop(shop) || !within(c, 0, MOST_PRICE)) {
            return BAD;
        }
        int before = trade.price[shop];
        trade.price[shop] = c;
        return before;
    }

    // ---- sales

    public int sale(int shop, int thing, int week, int hour, int many, int sort, int told) {
        return enter(shop, thing, week, hour, many, sort, told);
    }

    public int read(int s) {
        if (!Sheets.isNumber(s)) {
            return BAD;
        }
        if (sheets.isLost(s)) {
            return sheets.found(NULL_FOUND);
        }
        long[] row = sheets.rows[s];
        int taken = 0;
        for (int i = 0; i + SALE_ITEMS <= sheets.lengths[s]; i += SALE_ITEMS) {
            int number = enter(row[i], row[i + 1], row[i + 2], row[i + 3], row[i + 4], row[i + 5], row[i + 6]);
            if (number < 0) {
                return taken;
            }
            taken++;
        }
        return taken;
    }

    public int about(int sale, int what) {
        if (!ledger.isSale(sale)) {
            return NO_DETAIL;
        }
        switch (what) {
            case 0: return ledger.shopOf[sale];
            case 1: return ledger.thingOf[sale];
            case 2: return ledger.weekOf[sale];
            case 3: return ledger.hourOf[sale];
            case 4: return ledger.manyOf[sale];
            case 5: return ledger.sortOf[sale];
            case 6: return ledger.toldIn[sale];
            case 7: return ledger.struckIn[sale];
            case 8: return ledger.isKnown(sale) ? 1 : 0;
            default: return NO_DETAIL;
        }
    }

    public int strike(int sale, int week) {
        if (!ledger.isSale(sale) || !isWeek(week)) {
            return BAD;
        }
        if (ledger.struckIn[sale] != NONE || week < ledger.toldIn[sale]) {
            return NOT;
        }
        ledger.struckIn[sale] = week;
        return 1;
    }

    public int back(int sale) {
        if (!ledger.isSale(sale)) {
            return BAD;
        }
        if (ledger.struckIn[sale] == NONE) {
            return NOT;
        }
        int before = ledger.struckIn[sale];
        ledger.struckIn[sale] = NONE;
        return before;
    }

    public int asOf(int week) {
        if (!isWeek(week)) {
            return BAD;
        }
        int before = ledger.asOfWeek;
        ledger.asOfWeek = week;
        return before;
    }

    // ---- rules

    public int type(int b) {
        if (!within(b, 0, 255)) {
            return BAD;
        }
        return rules.append(b);
    }

    public int wipe() {
        return rules.clear();
    }

    public int fault() {
        return rules.faultAt;
    }

    public int rule(int item, int week) {
        if (!within(item, 0, ITEMS - 1) || !isWeek(week)) {
            return BAD;
        }
        rules.bindTo(week);
        return rules.inForce[item];
    }

    public int why(int item, int week) {
        if (!within(item, 0, ITEMS - 1) || !isWeek(week)) {
            return BAD;
        }
        rules.bindTo(week);
        return rules.byPart[item];
    }

    // ---- sums, lists

    public long amount(int shop, int thing, int week, int rules) {
        if (!trade.isShop(shop) || !trade.isThing(thing) || !isWeek(week) || !isWeek(rules)) {
            return Long.MIN_VALUE;
        }
        tally.gather(week, rules);
        return tally.amountAt(shop, thing);
    }

    public long sum(int title, int week, int rules, int what) {
        if (!trade.isTitle(title) || !isWeek(week) || !isWeek(rules) || !within(what, 0, 2)) {
            return Long.MIN_VALUE;
        }
        tally.gather(week, rules);
        tally.weigh(NONE);
        switch (what) {
            case 0: return tally.sums[title];
            case 1: return tally.toldOf(title);
            default: return tally.sums[title] - tally.toldOf(title);
        }
    }

    public int sure(int title, int week) {
        if (!trade.isTitle(title) || !isWeek(week)) {
            return BAD;
        }
        tally.gather(week, week);
        tally.weigh(NONE);
        long all = tally.sums[title];
        if (all <= 0) {
            return NOT;
        }
        long share = 10000 * tally.toldOf(title) / all;
        return (int) Math.max(-MOST_SURE, Math.min(MOST_SURE, share));
    }

    public int place(int title, int week, int rules) {
        if (!trade.isTitle(title) || !isWeek(week) || !isWeek(rules)) {
            return BAD;
        }
        tally.makeList(week, rules);
        return tally.places[title];
    }

    public int line(int week, int rules, int i) {
        if (!isWeek(week) || !isWeek(rules) || i < 0) {
            return BAD;
        }
        tally.makeList(week, rules);
        return i < tally.listed ? tally.order[i] : NONE;
    }

    public long span(int title, int week, int end) {
        if (!trade.isTitle(title) || !isWeek(week) || !within(end, 0, 1)) {
            return Long.MIN_VALUE;
        }
        tally.gather(week, week);
        tally.weigh(NONE);
        long found = tally.sums[title];
        for (int shop = 0; shop < trade.shops; shop++) {
            if (tally.state[shop] == TELLING) {
                tally.weigh(shop);
                long without = tally.sums[title];
                found = end == 0 ? Math.min(found, without) : Math.max(found, without);
            }
        }
        return found;
    }

    public int firm(int week) {
        if (!isWeek(week)) {
            return BAD;
        }
        tally.makeList(week, week);
        if (tally.listed == 0) {
            return NOT;
        }
        int first = tally.order[0];
        for (int shop = 0; shop < trade.shops; shop++) {
            if (tally.state[shop] == TELLING) {
                tally.weigh(shop);
                tally.rank(week);
                if (tally.listed == 0 || tally.order[0] != first) {
                    return 0;
                }
            }
        }
        return 1;
    }

    // ---- doubts

    public int alike(int a, int b, int week, int what) {
        if (!trade.isShop(a) || !trade.isShop(b) || a == b || !isWeek(week)) {
            return BAD;
        }
        habits.gather(week);
        switch (what) {
            case 0: return Integer.bitCount(habits.hoursOf[a]);
            case 1: return Integer.bitCount(habits.hoursOf[b]);
            case 2: return Integer.bitCount(habits.hoursOf[a] & habits.hoursOf[b]);
            case 3: return habits.chance(a, b);
            default: return BAD;
        }
    }

    public int odd(int week) {
        if (!isWeek(week)) {
            return BAD;
        }
        habits.gather(week);
        return habits.oddPair(trade.shops);
    }

    public int cannot(int thing) {
        if (!trade.isThing(thing)) {
            return BAD;
        }
        if (!doubts.examine(thing)) {
            return FULL;
        }
        return doubts.untimely + doubts.fewest;
    }

    public int doubted(int sale) {
        if (!ledger.isSale(sale)) {
            return BAD;
        }
        if (!doubts.examine(ledger.thingOf[sale])) {
            return FULL;
        }
        return doubts.isDoubted(sale) ? 1 : 0;
    }

    public long moves(int sale) {
        if (!ledger.isSale(sale)) {
            return refused(BAD);
        }
        if (!ledger.isKnown(sale)) {
            return refused(NOT);
        }
        long weeks = 0;
        for (int week = 0; week < WEEKS; week++) {
            if (bearsOn(sale, week) && changesList(sale, week)) {
                weeks |= 1L << week;
            }
        }
        return weeks;
    }

    // ---- asking

    public long worth(int shop, int week) {
        if (!trade.isShop(shop) || !isWeek(week)) {
            return refused(BAD);
        }
        tally.gather(week, week);
        if (tally.state[shop] != SILENT) {
            return refused(NOT);
        }
        tally.weigh(NONE);
        return tally.worthOf(shop);
    }

    public int ask(int week, int coins) {
        if (!isWeek(week) || !within(coins, 0, MOST_PURSE)) {
            return BAD;
        }
        tally.gather(week, week);
        tally.weigh(NONE);
        errand.start(coins);
        for (int shop = 0; shop < trade.shops; shop++) {
            if (tally.state[shop] == SILENT) {
                errand.offer(shop, tally.worthOf(shop), trade.price[shop]);
            }
        }
        return errand.choose();
    }

    // ---- sheets

    public int sheet(int s, int mould, int n) {
        if (!Sheets.isNumber(s) || !Sheets.isMould(mould) || n > Sheets.MOST_ITEMS) {
            return BAD;
        }
        if (n < 0) {
            return sheets.found(SIZE_FOUND);
        }
        sheets.renew(s, mould, n);
        return n;
    }

    public int lose(int s) {
        if (!Sheets.isNumber(s)) {
            return BAD;
        }
        if (sheets.isLost(s)) {
            return sheets.found(NULL_FOUND);
        }
        int before = sheets.lengths[s];
        sheets.lengths[s] = NONE;
        return before;
    }

    public int put(int s, int mould, int i, long v) {
        if (!Sheets.isNumber(s) || !Sheets.isMould(mould)) {
            return BAD;
        }
        int finding = sheets.check(s, mould, i);
        if (finding != 0) {
            return sheets.found(finding);
        }
        sheets.store(s, i, v);
        return 1;
    }

    public long get(int s, int mould, int i) {
        if (!Sheets.isNumber(s) || !Sheets.isMould(mould)) {
            return Long.MIN_VALUE;
        }
        int finding = sheets.check(s, mould, i);
        if (finding != 0) {
            sheets.found(finding);
            return Long.MIN_VALUE;
        }
        return sheets.rows[s][i];
    }

    public int copy(int s, int i, int t, int j, int n) {
        if (!Sheets.isNumber(s) || !Sheets.isNumber(t)) {
            return BAD;
        }
        if (sheets.isLost(s) || sheets.isLost(t)) {
            return sheets.found(NULL_FOUND);
        }
        if (sheets.moulds[s] != sheets.moulds[t]) {
            return sheets.found(STORE_FOUND);
        }
        if (!sheets.hasRange(s, i, n) || !sheets.hasRange(t, j, n)) {
            return sheets.found(INDEX_FOUND);
        }
        System.arraycopy(sheets.rows[s], i, sheets.rows[t], j, n);
        return 1;
    }

    public int write(int s, int week) {
        if (!Sheets.isNumber(s) || !isWeek(week)) {
            return BAD;
        }
        if (sheets.isLost(s)) {
            return sheets.found(NULL_FOUND);
        }
        tally.makeList(week, week);
        int most = Math.min(2 * tally.listed, sheets.lengths[s]);
        for (int i = 0; i < most; i++) {
            int title = tally.order[i / 2];
            sheets.store(s, i, i % 2 == 0 ? title : tally.sums[title]);
        }
        return most;
    }

    public int count(int what) {
        switch (what) {
            case 0: return trade.titles;
            case 1: return trade.things;
            case 2: return trade.shops;
            case 3: return ledger.sales;
            case 4: return ledger.countKnown();
            case 5: return ledger.asOfWeek;
            case 6: return rules.length;
            case 7: return trade.empties;
            case 8: return sheets.latest;
            default: return BAD;
        }
    }

    public long digest() {
        long h = 17;
        for (int what = 0; what <= 7; what++) {
            h = 31 * h + count(what);
        }
        h = 31 * h + rules.faultAt;
        for (int week = 0; week < WEEKS; week += 5) {
            tally.makeList(week, week);
            h = 31 * h + tally.listed;
            for (int i = 0; i < tally.listed; i++) {
                int title = tally.order[i];
                h = 31 * (31 * h + title) + tally.sums[title];
            }
        }
        return h;
    }

    // ---- what several acts share

    private static boolean within(long number, long least, long most) {
        return least <= number && number <= most;
    }

    private static boolean isWeek(long number) {
        return within(number, 0, LAST_WEEK);
    }

    private static long refused(int refusal) {
        return Long.MIN_VALUE - refusal;
    }

    // Takes longs, so that a sheet's item of many bits is not mistaken for the int in its lowest ones.
    private int enter(long shop, long thing, long week, long hour, long many, long sort, long told) {
        if (!trade.isShop(shop) || !trade.isThing(thing) || !isWeek(week) || !within(hour, 0, HOURS - 1)) {
            return BAD;
        }
        if (!within(many, 1, MOST_AT_ONCE) || !within(sort, SOLD, RETURNED) || !isWeek(told) || told < week) {
            return BAD;
        }
        return ledger.add((int) shop, (int) thing, (int) week, (int) hour, (int) many, (int) sort, (int) told);
    }

    // Only such a sale can change who tells in the week, or an amount of it.
    private boolean bearsOn(int sale, int week) {
        int own = ledger.weekOf[sale];
        if (own == week) {
            return true;
        }
        if (ledger.sortOf[sale] != RETURNED) {
            return false;
        }
        rules.bindTo(week);
        return own == week + rules.inForce[RETURN_AHEAD];
    }

    private boolean changesList(int sale, int week) {
        tally.makeList(week, week);
        for (int title = 0; title < trade.titles; title++) {
            placesBefore[title] = tally.places[title];
        }
        ledger.unheardOf = sale;
        tally.makeList(week, week);
        ledger.unheardOf = NONE;
        for (int title = 0; title < trade.titles; title++) {
            if (placesBefore[title] != tally.places[title]) {
                return true;
            }
        }
        return false;
    }

    /** Titles, things and shops, and the weeks that shops said to be empty. */
    private static final class Trade {
        int titles;
        final int[] cameOut;
        int things;
        final int[] titleOf;
        final int[] formOf;
        final int[] madeOf;
        int shops;
        final int[] kindOf;
        final int[] sizeOf;
        final int[] opens;
        final int[] closes;
        final int[] price;
        int empties;
        final int[] emptyToldIn;

        Trade() {
            cameOut = new int[MOST_TITLES];
            titleOf = new int[MOST_THINGS];
            formOf = new int[MOST_THINGS];
            madeOf = new int[MOST_THINGS];
            kindOf = new int[MOST_SHOPS];
            sizeOf = new int[MOST_SHOPS];
            opens = new int[MOST_SHOPS];
            closes = new int[MOST_SHOPS];
            price = new int[MOST_SHOPS];
            emptyToldIn = new int[MOST_SHOPS * WEEKS];
            for (int i = 0; i < MOST_SHOPS * WEEKS; i++) {
                emptyToldIn[i] = NONE;
            }
        }

        boolean isTitle(long number) {
            return within(number, 0, titles - 1);
        }

        boolean isThing(long number) {
            return within(number, 0, things - 1);
        }

        boolean isShop(long number) {
            return within(number, 0, shops - 1);
        }

        int addTitle(int out) {
            if (titles >= MOST_TITLES) {
                return FULL;
            }
            cameOut[titles] = out;
            return titles++;
        }

        int addThing(int title, int form, int made) {
            if (things >= MOST_THINGS) {
                return FULL;
            }
            titleOf[things] = title;
            formOf[things] = form;
            madeOf[things] = made;
            return things++;
        }

        int addShop(int kind, int size, int from, int to) {
            if (shops >= MOST_SHOPS) {
                return FULL;
            }
            kindOf[shops] = kind;
            sizeOf[shops] = size;
            opens[shops] = from;
            closes[shops] = to;
            price[shops] = USUAL_PRICE;
            return shops++;
        }

        boolean isOpen(int shop, int week) {
            return opens[shop] <= week && week <= closes[shop];
        }

        int sayEmpty(int shop, int week, int told) {
            int at = shop * WEEKS + week;
            int before = emptyToldIn[at];
            if (before != NONE && before <= told) {
                return 0;
            }
            if (before == NONE) {
                empties++;
            }
            emptyToldIn[at] = told;
            return 1;
        }

        boolean saidEmpty(int shop, int week, int upTo) {
            int told = emptyToldIn[shop * WEEKS + week];
            return told != NONE && told <= upTo;
        }
    }

    /** Sales as they were told and struck, and the week as of which they are looked at. */
    private static final class Ledger {
        int sales;
        int asOfWeek;
        int unheardOf;
        final int[] shopOf;
        final int[] thingOf;
        final int[] weekOf;
        final int[] hourOf;
        final int[] manyOf;
        final int[] sortOf;
        final int[] toldIn;
        final int[] struckIn;

        Ledger() {
            asOfWeek = LAST_WEEK;
            unheardOf = NONE;
            shopOf = new int[MOST_SALES];
            thingOf = new int[MOST_SALES];
            weekOf = new int[MOST_SALES];
            hourOf = new int[MOST_SALES];
            manyOf = new int[MOST_SALES];
            sortOf = new int[MOST_SALES];
            toldIn = new int[MOST_SALES];
            struckIn = new int[MOST_SALES];
        }

        boolean isSale(int number) {
            return within(number, 0, sales - 1);
        }

        int add(int shop, int thing, int week, int hour, int many, int sort, int told) {
            if (sales >= MOST_SALES) {
                return FULL;
            }
            shopOf[sales] = shop;
            thingOf[sales] = thing;
            weekOf[sales] = week;
            hourOf[sales] = hour;
            manyOf[sales] = many;
            sortOf[sales] = sort;
            toldIn[sales] = told;
            struckIn[sales] = NONE;
            return sales++;
        }

        boolean isKnown(int sale) {
            if (sale == unheardOf || toldIn[sale] > asOfWeek) {
                return false;
            }
            return struckIn[sale] == NONE || struckIn[sale] > asOfWeek;
        }

        int countKnown() {
            int known = 0;
            for (int sale = 0; sale < sales; sale++) {
                if (isKnown(sale)) {
                    known++;
                }
            }
            return known;
        }

        boolean doesCount(int sale, Rules rules) {
            return isKnown(sale)
                && toldIn[sale] - weekOf[sale] <= rules.inForce[LATEST]
                && within(hourOf[sale], rules.inForce[FIRST_HOUR], rules.inForce[LAST_HOUR]);
        }
    }

    /** The text of rules, its parts, and what is so by them in the week it is bound to. */
    private static final class Rules {
        private static final int MOST_BYTES = 200;
        // "h=1;" is the shortest part with what parts it from the next.
        private static final int MOST_PARTS = 50;
        private static final int MOST_FIGURES = 4, WEEK_FIGURES = 2;
        private static final int[] LEAST = {1, 0, 0, 0, 0, 0, 0, 0, 0, 0, 0, 0, 0, 0, 0};
        private static final int[] MOST = {9999, 1, 51, 51, 167, 167, 500, 500, 500, 500, 500, 500, 500, 500, 2};
        private static final int[] USUAL = {100, 1, 0, 51, 0, 167, 100, 100, 100, 100, 100, 100, 100, 100, 0};

        private final int[] text;
        int length;
        int faultAt;
        final int[] inForce;
        final int[] byPart;
        private final int[] itemOf;
        private final int[] numberOf;
        private final int[] fromWeek;
        private int closedParts;
        private int startOfLast;
        private int at;

        Rules() {
            text = new int[MOST_BYTES];
            inForce = new int[ITEMS];
            byPart = new int[ITEMS];
            itemOf = new int[MOST_PARTS];
            numberOf = new int[MOST_PARTS];
            fromWeek = new int[MOST_PARTS];
        }

        int append(int b) {
            if (length >= MOST_BYTES) {
                return FULL;
            }
            text[length] = b;
            length++;
            parseLast();
            return length;
        }

        int clear() {
            int before = length;
            length = 0;
            faultAt = 0;
            closedParts = 0;
            startOfLast = 0;
            return before;
        }

        void bindTo(int week) {
            for (int item = 0; item < ITEMS; item++) {
                inForce[item] = USUAL[item];
                byPart[item] = NONE;
            }
            if (faultAt != NONE) {
                return;
            }
            for (int part = 0; part <= closedParts && part < MOST_PARTS; part++) {
                if (fromWeek[part] <= week) {
                    inForce[itemOf[part]] = numberOf[part];
                    byPart[itemOf[part]] = part;
                }
            }
        }

        // A byte can change only the last part, so those that a ; has closed are not read again.
        private void parseLast() {
            at = startOfLast;
            faultAt = parsePart();
            if (faultAt != NONE || at == length) {
                return;
            }
            faultAt = at;
            if (byteAt(at) == ';') {
                closedParts++;
                startOfLast = at + 1;
                faultAt = startOfLast;
            }
        }

        // NONE, or the place of the fault in the last part.
        private int parsePart() {
            int item = itemOfLetter(byteAt(at));
            if (item == NONE || closedParts >= MOST_PARTS) {
                return at;
            }
            at++;
            if (item == FORM_SHARE || item == KIND_SHARE) {
                int figure = byteAt(at) - '0';
                if (!within(figure, 0, 3)) {
                    return at;
                }
                item += figure;
                at++;
            }
            if (byteAt(at) != '=') {
                return at;
            }
            at++;
            int first = at;
            int number = parseNumber(MOST_FIGURES);
            if (!within(number, LEAST[item], MOST[item])) {
                return first;
            }
            int from = 0;
            if (byteAt(at) == '@') {
                at++;
                first = at;
                from = parseNumber(WEEK_FIGURES);
                if (!isWeek(from)) {
                    return first;
                }
            }
            itemOf[closedParts] = item;
            numberOf[closedParts] = number;
            fromWeek[closedParts] = from;
            return NONE;
        }

        // NONE, which no item may be, where no figure stands.
        private int parseNumber(int mostFigures) {
            int number = NONE;
            for (int i = 0; i < mostFigures; i++) {
                int figure = byteAt(at) - '0';
                if (figure < 0 || figure > 9) {
                    return number;
                }
                number = (i == 0 ? 0 : 10 * number) + figure;
                at++;
            }
            return number;
        }

        private int byteAt(int place) {
            return 0 <= place && place < length ? text[place] : NONE;
        }

        private static int itemOfLetter(int letter) {
            switch (letter) {
                case 'h': return HEARD_FOR_ONE;
                case 'b': return BUNDLES;
                case 'r': return RETURN_AHEAD;
                case 'l': return LATEST;
                case 'o': return FIRST_HOUR;
                case 'c': return LAST_HOUR;
                case 'f': return FORM_SHARE;
                case 'k': return KIND_SHARE;
                case 't': return TIES;
                default: return NONE;
            }
        }
    }

    /** Amounts, sums and the list of one week by the rules of one week; each look writes over the last. */
    private static final class Tally {
        private static final int CELLS = MOST_SHOPS * MOST_THINGS;

        private final Trade trade;
        private final Ledger ledger;
        private final Rules rules;
        private final int[] taken;
        private final int[] heard;
        final int[] state;
        private final long[] told;
        private final int[] sizeTelling;
        private final int[] sizeSilent;
        final long[] sums;
        final int[] order;
        int listed;
        final int[] places;

        Tally(Trade trade, Ledger ledger, Rules rules) {
            this.trade = trade;
            this.ledger = ledger;
            this.rules = rules;
            taken = new int[CELLS];
            heard = new int[CELLS];
            state = new int[MOST_SHOPS];
            told = new long[MOST_TITLES * KINDS];
            sizeTelling = new int[KINDS];
            sizeSilent = new int[KINDS];
            sums = new long[MOST_TITLES];
            order = new int[MOST_TITLES];
            places = new int[MOST_TITLES];
        }

        void makeList(int week, int ruleWeek) {
            gather(week, ruleWeek);
            weigh(NONE);
            rank(week);
        }

        // Amounts, and which shops tell; weigh() and rank() build on them.
        void gather(int week, int ruleWeek) {
            rules.bindTo(ruleWeek);
            for (int cell = 0; cell < CELLS; cell++) {
                taken[cell] = 0;
                heard[cell] = 0;
            }
            for (int shop = 0; shop < trade.shops; shop++) {
                state[shop] = trade.saidEmpty(shop, week, ledger.asOfWeek) ? TELLING : SILENT;
            }
            for (int sale = 0; sale < ledger.sales; sale++) {
                if (ledger.weekOf[sale] == week && ledger.isKnown(sale)) {
                    state[ledger.shopOf[sale]] = TELLING;
                }
                if (ledger.doesCount(sale, rules)) {
                    takeIn(sale, week);
                }
            }
            for (int shop = 0; shop < trade.shops; shop++) {
                if (!trade.isOpen(shop, week)) {
                    state[shop] = SHUT;
                }
            }
        }

        private void takeIn(int sale, int week) {
            int cell = ledger.shopOf[sale] * MOST_THINGS + ledger.thingOf[sale];
            int sort = ledger.sortOf[sale];
            int own = ledger.weekOf[sale];
            int many = ledger.manyOf[sale];
            if (sort == RETURNED) {
                if (own == week + rules.inForce[RETURN_AHEAD]) {
                    taken[cell] -= many;
                }
            } else if (own == week) {
                if (sort == HEARD) {
                    heard[cell] += many;
                } else if (sort == SOLD || rules.inForce[BUNDLES] == 1) {
                    taken[cell] += many;
                }
            }
        }

        int amountAt(int shop, int thing) {
            int cell = shop * MOST_THINGS + thing;
            int forOne = rules.inForce[HEARD_FOR_ONE];
            int turned = forOne > 0 ? heard[cell] / forOne : 0;
            return taken[cell] + turned;
        }

        private long hundredthsAt(int shop, int thing) {
            long form = rules.inForce[FORM_SHARE + trade.formOf[thing]];
            long kind = rules.inForce[KIND_SHARE + trade.kindOf[shop]];
            return amountAt(shop, thing) * form * kind / 100;
        }

        // leftOut: a shop that tells, taken as silent; or NONE.
        void weigh(int leftOut) {
            for (int kind = 0; kind < KINDS; kind++) {
                sizeTelling[kind] = 0;
                sizeSilent[kind] = 0;
            }
            for (int i = 0; i < MOST_TITLES * KINDS; i++) {
                told[i] = 0;
            }
            for (int shop = 0; shop < trade.shops; shop++) {
                int kind = trade.kindOf[shop];
                if (state[shop] == TELLING && shop != leftOut) {
                    sizeTelling[kind] += trade.sizeOf[shop];
                    weighShop(shop, kind);
                } else if (state[shop] != SHUT) {
                    sizeSilent[kind] += trade.sizeOf[shop];
                }
            }
            for (int title = 0; title < trade.titles; title++) {
                sums[title] = toldOf(title);
                for (int kind = 0; kind < KINDS; kind++) {
                    sums[title] += shareOfTold(title, kind, sizeSilent[kind]);
                }
            }
        }

        private void weighShop(int shop, int kind) {
            for (int thing = 0; thing < trade.things; thing++) {
                told[trade.titleOf[thing] * KINDS + kind] += hundredthsAt(shop, thing);
            }
        }

        long toldOf(int title) {
            long all = 0;
            for (int kind = 0; kind < KINDS; kind++) {
                all += told[title * KINDS + kind];
            }
            return all;
        }

        private long shareOfTold(int title, int kind, int size) {
            return sizeTelling[kind] > 0 ? told[title * KINDS + kind] * size / sizeTelling[kind] : 0;
        }

        long worthOf(int shop) {
            long all = 0;
            for (int title = 0; title < trade.titles; title++) {
                all += Math.max(0, shareOfTold(title, trade.kindOf[shop], trade.sizeOf[shop]));
            }
            return all;
        }

        void rank(int week) {
            listed = 0;
            for (int title = 0; title < trade.titles; title++) {
                places[title] = NONE;
                if (trade.cameOut[title] <= week && sums[title] > 0) {
                    insert(title);
                }
            }
            for (int i = 0; i < listed; i++) {
                places[order[i]] = sharesPlace(i) ? places[order[i - 1]] : i + 1;
            }
        }

        private void insert(int title) {
            int i = listed;
            while (i > 0 && isAhead(title, order[i - 1])) {
                order[i] = order[i - 1];
                i--;
            }
            order[i] = title;
            listed++;
        }

        // The title comes in behind all lesser numbers, so only what beats a lesser number is told here.
        private boolean isAhead(int title, int lesser) {
            if (sums[title] != sums[lesser]) {
                return sums[title] > sums[lesser];
            }
            return rules.inForce[TIES] == LATER_FIRST && trade.cameOut[title] > trade.cameOut[lesser];
        }

        private boolean sharesPlace(int i) {
            return i > 0 && rules.inForce[TIES] == SHARED && sums[order[i]] == sums[order[i - 1]];
        }
    }

    /** The hours of the day in which shops sold, and how far past chance two of them are alike. */
    private static final class Habits {
        private static final long MILLION = 1000000;

        private final Ledger ledger;
        private final Rules rules;
        final int[] hoursOf;
        private final long[][] ways;

        Habits(Ledger ledger, Rules rules) {
            this.ledger = ledger;
            this.rules = rules;
            hoursOf = new int[MOST_SHOPS];
            ways = new long[DAY + 1][DAY + 1];
            for (int n = 0; n <= DAY; n++) {
                ways[n][0] = 1;
                for (int m = 1; m <= n; m++) {
                    ways[n][m] = ways[n - 1][m - 1] + ways[n - 1][m];
                }
            }
        }

        void gather(int week) {
            rules.bindTo(week);
            for (int shop = 0; shop < MOST_SHOPS; shop++) {
                hoursOf[shop] = 0;
            }
            for (int sale = 0; sale < ledger.sales; sale++) {
                boolean isSold = ledger.weekOf[sale] == week && ledger.sortOf[sale] == SOLD;
                if (isSold && ledger.doesCount(sale, rules)) {
                    hoursOf[ledger.shopOf[sale]] |= 1 << (ledger.hourOf[sale] % DAY);
                }
            }
        }

        int chance(int a, int b) {
            int n = Integer.bitCount(hoursOf[a]);
            int m = Integer.bitCount(hoursOf[b]);
            int k = Integer.bitCount(hoursOf[a] & hoursOf[b]);
            long found = 0;
            for (int j = k; j <= n && j <= m; j++) {
                found += ways[n][j] * ways[DAY - n][m - j];
            }
            long all = ways[DAY][m];
            return all > 0 ? (int) (MILLION * found / all) : 0;
        }

        int oddPair(int shops) {
            int pair = NONE;
            int least = 0;
            for (int a = 0; a < shops; a++) {
                for (int b = a + 1; b < shops; b++) {
                    if (hoursOf[a] != 0 && hoursOf[b] != 0) {
                        int chance = chance(a, b);
                        if (pair == NONE || chance < least) {
                            pair = 100 * a + b;
                            least = chance;
                        }
                    }
                }
            }
            return pair;
        }
    }

    /** Which known sales of a thing cannot be. */
    private static final class Doubts {
        private static final int MOST_OTHERS = 12;

        private final Trade trade;
        private final Ledger ledger;
        private final int[] others;
        private int othersCount;
        private int excess;
        int untimely;
        int fewest;
        private int chosen;

        Doubts(Trade trade, Ledger ledger) {
            this.trade = trade;
            this.ledger = ledger;
            others = new int[MOST_OTHERS];
        }

        // False if there are too many others to choose from.
        boolean examine(int thing) {
            untimely = 0;
            othersCount = 0;
            int together = 0;
            for (int sale = 0; sale < ledger.sales; sale++) {
                if (ledger.thingOf[sale] == thing && isClaim(sale)) {
                    if (isUntimely(sale)) {
                        untimely++;
                    } else if (othersCount == MOST_OTHERS) {
                        return false;
                    } else {
                        others[othersCount] = sale;
                        othersCount++;
                        together += ledger.manyOf[sale];
                    }
                }
            }
            excess = together - trade.madeOf[thing];
            chooseFewest();
            return true;
        }

        private boolean isClaim(int sale) {
            int sort = ledger.sortOf[sale];
            return (sort == SOLD || sort == BUNDLED) && ledger.isKnown(sale);
        }

        private boolean isUntimely(int sale) {
            int week = ledger.weekOf[sale];
            int title = trade.titleOf[ledger.thingOf[sale]];
            return !trade.isOpen(ledger.shopOf[sale], week) || week < trade.cameOut[title];
        }

        // Counting up takes the sets in the order of their bits, so of like ones the first is kept.
        private void chooseFewest() {
            fewest = 0;
            chosen = 0;
            if (excess <= 0) {
                return;
            }
            fewest = othersCount + 1;
            int least = 0;
            int together = 0;
            for (int set = 1; set < 1 << othersCount; set++) {
                int changed = set ^ set - 1;
                for (int i = 0; i < othersCount && (changed >> i & 1) == 1; i++) {
                    int many = ledger.manyOf[others[i]];
                    together += (set >> i & 1) == 1 ? many : -many;
                }
                int count = Integer.bitCount(set);
                if (together >= excess && (count < fewest || count == fewest && together < least)) {
                    fewest = count;
                    least = together;
                    chosen = set;
                }
            }
        }

        boolean isDoubted(int sale) {
            if (!isClaim(sale)) {
                return false;
            }
            if (isUntimely(sale)) {
                return true;
            }
            for (int i = 0; i < othersCount; i++) {
                if (others[i] == sale) {
                    return (chosen >> i & 1) == 1;
                }
            }
            return false;
        }
    }

    /** Which silent shops to ask within so many coins. */
    private static final class Errand {
        private final int[] shops;
        private final long[] worths;
        private final int[] prices;
        private int offered;
        private int purse;

        Errand() {
            shops = new int[MOST_SHOPS];
            worths = new long[MOST_SHOPS];
            prices = new int[MOST_SHOPS];
        }

        void start(int coins) {
            offered = 0;
            purse = coins;
        }

        // A shop that is worth nothing is left aside: without it the coins are no more, and the bits less.
        void offer(int shop, long worth, int price) {
            if (worth > 0 && price <= purse && offered < MOST_SHOPS) {
                shops[offered] = shop;
                worths[offered] = worth;
                prices[offered] = price;
                offered++;
            }
        }

        // Counting up takes the sets in the order of their bits, so of like ones the first is kept.
        int choose() {
            int chosen = 0;
            long most = 0;
            int cheapest = 0;
            long worth = 0;
            int cost = 0;
            for (int set = 1; set < 1 << offered; set++) {
                int changed = set ^ set - 1;
                for (int i = 0; i < offered && (changed >> i & 1) == 1; i++) {
                    boolean joins = (set >> i & 1) == 1;
                    worth += joins ? worths[i] : -worths[i];
                    cost += joins ? prices[i] : -prices[i];
                }
                if (cost <= purse && (worth > most || worth == most && cost < cheapest)) {
                    most = worth;
                    cheapest = cost;
                    chosen = set;
                }
            }
            return shopBits(chosen);
        }

        private int shopBits(int set) {
            int bits = 0;
            for (int i = 0; i < offered; i++) {
                if ((set >> i & 1) == 1) {
                    bits |= 1 << shops[i];
                }
            }
            return bits;
        }
    }

    /** Four rows of numbers, each of a mould or lost, and the latest finding. */
    private static final class Sheets {
        static final int MOST_ITEMS = 120;
        private static final int SHEETS = 4;
        private static final int BYTES = 0, SHORTS = 1, INTS = 2, LONGS = 3;
        private static final int FINDING_BASE = -10;

        final long[][] rows;
        final int[] lengths;
        final int[] moulds;
        int latest;

        Sheets() {
            rows = new long[SHEETS][MOST_ITEMS];
            lengths = new int[SHEETS];
            moulds = new int[SHEETS];
            for (int s = 0; s < SHEETS; s++) {
                lengths[s] = NONE;
            }
        }

        static boolean isNumber(int s) {
            return within(s, 0, SHEETS - 1);
        }

        static boolean isMould(int mould) {
            return within(mould, BYTES, LONGS);
        }

        boolean isLost(int s) {
            return lengths[s] == NONE;
        }

        int found(int finding) {
            latest = finding;
            return FINDING_BASE - finding;
        }

        void renew(int s, int mould, int n) {
            moulds[s] = mould;
            lengths[s] = n;
            for (int i = 0; i < n; i++) {
                rows[s][i] = 0;
            }
        }

        // The finding at an item treated as of a mould, or 0.
        int check(int s, int mould, int i) {
            if (isLost(s)) {
                return NULL_FOUND;
            }
            if (moulds[s] != mould) {
                return CAST_FOUND;
            }
            return within(i, 0, lengths[s] - 1) ? 0 : INDEX_FOUND;
        }

        boolean hasRange(int s, int first, int n) {
            return first >= 0 && n >= 0 && (long) first + n <= lengths[s];
        }

        void store(int s, int i, long v) {
            rows[s][i] = lowestBits(moulds[s], v);
        }

        private static long lowestBits(int mould, long v) {
            switch (mould) {
                case BYTES: return (byte) v;
                case SHORTS: return (short) v;
                case INTS: return (int) v;
                default: return v;
            }
        }
    }
}
