import java.util.NoSuchElementException;

/**
 * Firms in lands that sell goods to one another, and the rounds in which the same goods come home
 * again. The document's numbered promises are kept by the public methods, one each.
 */
public final class SaleRounds {
    public static final int NONE = -1;

    private static final int SPENT = -2;
    private static final int TOO_SHORT = -2;
    private static final int NO_SUCH = Integer.MIN_VALUE;

    private static final int MOST_BYTES = 800;
    private static final int MOST_LANDS = 5;
    private static final int MOST_GOODS = 4;
    private static final int MOST_FIRMS = 12;
    private static final int MOST_SALES_IN_BOOK = 30;
    private static final int MOST_SALES = 40;
    private static final int MOST_ROUNDS = 200;
    private static final int LONGEST_ROUND = 6;
    private static final int LAST_DAY = 400;
    private static final int HIGHEST_TAX = 40;
    private static final int HIGHEST_NUMBER = 999;
    private static final int HIGHEST_MARK = 99;
    private static final int HIGHEST_PAID = 999999;
    private static final int MOST_DRAWS = 10;

    private static final int BELOW_COST = 1;
    private static final int FROM_MISSING = 2;
    private static final int IN_ROUNDS = 4;
    private static final int MISSING_BESIDE = 8;
    private static final int ALL_SIGNS = 15;

    private final Reader reader = new Reader();
    private final Finder finder = new Finder();
    private final Streams streams = new Streams();
    private Book now = new Book();
    private Book spare = new Book();
    private int stopped = 0;
    private int ruled = 0;

    // Rows for one call's working, made once because a run's calls share one room.
    private final int[] members = new int[MOST_ROUNDS];
    private final int[] worths = new int[MOST_ROUNDS];
    private final long[] landTakes = new long[MOST_LANDS];
    private final int[] landBurden = new int[MOST_LANDS];

    public SaleRounds() {
    }

    public int feed(int a, int b, int c, int d, int e) {
        if (!reader.hasSpace(20)) {
            return NONE;
        }
        reader.push(a);
        reader.push(b);
        reader.push(c);
        reader.push(d);
        reader.push(e);
        return reader.size;
    }

    public int book(int n) {
        if (n < 0 || n > reader.size) {
            return TOO_SHORT;
        }
        spare.clear();
        int lines = reader.read(n, spare);
        if (lines >= 0) {
            Book old = now;
            now = spare;
            spare = old;
            now.joinParties();
            stopped = 0;
            ruled = 0;
            finder.forget();
        }
        return lines;
    }

    public int fault(int what) {
        switch (what) {
            case 0:
                return reader.fault;
            case 1:
                return reader.faultPlace;
            default:
                return NONE;
        }
    }

    public int named(int what, int letters) {
        switch (what) {
            case 0:
                return now.lands.find(letters);
            case 1:
                return now.goods.find(letters);
            case 2:
                return now.firms.find(letters);
            default:
                return NONE;
        }
    }

    public int look(int sale, int what) throws IndexOutOfBoundsException, NoSuchElementException {
        Sales sales = now.sales;
        if (!sales.has(sale)) {
            throw new IndexOutOfBoundsException("no such sale");
        }
        switch (what) {
            case 0:
                return sales.from[sale];
            case 1:
                return sales.to[sale];
            case 2:
                return sales.number[sale];
            case 3:
                return sales.good[sale];
            case 4:
                return sales.price[sale];
            case 5:
                return sales.day[sale];
            case 6:
                return sales.mark[sale];
            case 7:
                return now.taxOf(sale, ruled);
            default:
                throw new NoSuchElementException("no such what");
        }
    }

    public int firm(int firm, int what) {
        if (!now.firms.has(firm)) {
            return NO_SUCH;
        }
        switch (what) {
            case 0:
                return now.land[firm];
            case 1:
                return now.since[firm];
            case 2:
                return now.hand[firm];
            case 3:
                return now.room[firm];
            case 4:
                return now.owed(firm, ruled);
            case 5:
                return 100 * now.paid[firm];
            case 6:
                return now.missing(ruled) >> firm & 1;
            case 7:
                return now.party[firm];
            default:
                return NO_SUCH;
        }
    }

    public int sell(int from, int to, int number, int good, int price, int day, int mark) {
        boolean parties = now.firms.has(from) && now.firms.has(to) && from != to;
        boolean ware = now.goods.has(good) && within(number, 1, HIGHEST_NUMBER) && within(price, 1, HIGHEST_NUMBER);
        if (!parties || !ware || !within(mark, 0, HIGHEST_MARK) || !within(day, 0, LAST_DAY)) {
            return NONE;
        }
        if (day < now.sinceBoth(from, to) || !now.sales.add(from, to, number, good, price, day, mark)) {
            return NONE;
        }
        now.sales.told++;
        finder.forget();
        return now.sales.size - 1;
    }

    public int undo() {
        Sales sales = now.sales;
        if (sales.told <= 0 || sales.size <= 0) {
            return NONE;
        }
        sales.size--;
        sales.told--;
        finder.forget();
        return sales.told;
    }

    public int pay(int firm, int sum) {
        if (!now.firms.has(firm) || !within(sum, 0, HIGHEST_PAID - now.paid[firm])) {
            return NONE;
        }
        now.paid[firm] += sum;
        return now.paid[firm];
    }

    public int rounds(int way, int k, int d) {
        return gather(way, k, d);
    }

    public int round(int way, int k, int d, int i, int what) {
        int found = gather(way, k, d);
        if (found < 0) {
            return found;
        }
        if (i < 0 || i >= found || what < 0) {
            return NONE;
        }
        long row = finder.rows[i];
        int length = finder.lengths[i];
        switch (what) {
            case 0:
                return length;
            case 1:
                return now.carriedBy(row, length);
            case 2:
                return now.takenBy(row, length, now.missing(ruled), ruled);
            case 3:
                return now.firmsOf(row, length);
            default:
                return what - 4 < length ? saleAt(row, what - 4) : NONE;
        }
    }

    public int judge(int way, int n, long sales) {
        if (!within(n, 2, LONGEST_ROUND) || !within(way, 0, 1)) {
            return NONE;
        }
        for (int i = 0; i < n; i++) {
            if (!now.sales.has(saleAt(sales, i))) {
                return NONE;
            }
        }
        return now.sales.goRound(way, n, sales, stopped) ? 1 : 0;
    }

    public long takes(int way, int k, int d) {
        int found = gather(way, k, d);
        if (found < 0) {
            return found;
        }
        int missing = now.missing(ruled);
        long sum = 0;
        for (int i = 0; i < found; i++) {
            sum += now.takenBy(finder.rows[i], finder.lengths[i], missing, ruled);
        }
        return sum;
    }

    public int flow(int firm, int good) {
        if (!now.firms.has(firm) || !now.goods.has(good)) {
            return NONE;
        }
        return streams.most(now.sales, firm, good, stopped);
    }

    public int luck(int way, int k, int d, int seed, int draws) {
        if (seed < 0 || !within(draws, 1, MOST_DRAWS)) {
            return NONE;
        }
        int found = gather(way, k, d);
        if (found < 0) {
            return found;
        }
        // The draws go through the finder's own rows, so what it knows of the book is lost.
        finder.forget();
        long last = seed;
        int many = 0;
        for (int draw = 0; draw < draws; draw++) {
            finder.load(now.sales, way, stopped);
            last = finder.shuffle(last);
            int drawn = finder.search(k, d);
            if (drawn < 0) {
                return SPENT;
            }
            many += drawn >= found ? 1 : 0;
        }
        return many;
    }

    public int signs(int firm, int way, int k, int d) {
        if (!now.firms.has(firm)) {
            return NONE;
        }
        int found = gather(way, k, d);
        return found < 0 ? found : signBits(firm, now.missing(ruled), found);
    }

    public int knew(int signs, int way, int k, int d, int what) {
        if (!within(signs, 1, ALL_SIGNS) || !within(what, 0, 1)) {
            return NONE;
        }
        int found = gather(way, k, d);
        if (found < 0) {
            return found;
        }
        int missing = now.missing(ruled);
        int bits = 0;
        for (int firm = 0; firm < now.firms.size; firm++) {
            int seen = signBits(firm, missing, found) & signs;
            boolean guilty = what == 0 ? seen == signs : seen != 0;
            if (guilty && (missing >> firm & 1) == 0) {
                bits |= 1 << firm;
            }
        }
        return bits;
    }

    public int hands() {
        int parties = 0;
        for (int firm = 0; firm < now.firms.size; firm++) {
            parties += now.party[firm] == firm ? 1 : 0;
        }
        return parties;
    }

    public int lacking(int mark) {
        if (!within(mark, 1, HIGHEST_MARK)) {
            return NONE;
        }
        return now.sales.gapsOf(mark);
    }

    public int stop(int firms) {
        if (!areBits(firms, now.firms.size)) {
            return NONE;
        }
        stopped = firms;
        return Integer.bitCount(firms);
    }

    public int fewest(int way, int k, int d, long t) {
        if (t < 0) {
            return NONE;
        }
        int found = gather(way, k, d);
        if (found < 0) {
            return found;
        }
        int worthy = keepWorthy(found);
        int firms = now.firms.size;
        for (int many = 0; many < firms; many++) {
            for (int bits = 0; bits < 1 << firms; bits++) {
                if (Integer.bitCount(bits) == many && leftIsAtMost(bits, worthy, t)) {
                    return bits;
                }
            }
        }
        return (1 << firms) - 1;
    }

    public int rule(int lands) {
        if (!areBits(lands, now.lands.size)) {
            return NONE;
        }
        ruled = lands;
        return Integer.bitCount(lands);
    }

    public int burden(int land) {
        if (!now.lands.has(land)) {
            return NONE;
        }
        return now.honestSales(land, now.missing(0));
    }

    public long starve(int way, int k, int d, int purse, int what) {
        if (purse < 0 || !within(what, 0, 2)) {
            return NONE;
        }
        int found = gather(way, k, d);
        if (found < 0) {
            return found;
        }
        weighLands(found);
        int best = bestLands(purse);
        switch (what) {
            case 0:
                return best;
            case 1:
                return takesOutside(best);
            default:
                return burdenInside(best);
        }
    }

    public int count(int what) {
        switch (what) {
            case 0:
                return now.lands.size;
            case 1:
                return now.goods.size;
            case 2:
                return now.firms.size;
            case 3:
                return now.sales.size;
            case 4:
                return now.sales.told;
            case 5:
                return Integer.bitCount(stopped);
            case 6:
                return Integer.bitCount(ruled);
            case 7:
                return Integer.bitCount(now.missing(ruled));
            default:
                return NONE;
        }
    }

    private static boolean within(int x, int least, int most) {
        return x >= least && x <= most;
    }

    private static boolean areBits(int bits, int size) {
        return (bits & -1 << size) == 0;
    }

    /** A row of sales is held as judge() is told it: six bits each, the first lowest. */
    private static int saleAt(long row, int i) {
        return (int) (row >>> 6 * i & 63);
    }

    private int gather(int way, int k, int d) {
        if (!within(way, 0, 1) || !within(k, 2, LONGEST_ROUND) || !within(d, 0, LAST_DAY)) {
            return NONE;
        }
        return finder.find(now.sales, way, k, d, stopped);
    }

    private int signBits(int firm, int missing, int found) {
        int bits = 0;
        if (now.sales.soldBelow(firm)) {
            bits |= BELOW_COST;
        }
        if (now.sales.boughtOnlyFrom(firm, missing | now.sales.buyersFrom(missing))) {
            bits |= FROM_MISSING;
        }
        if (roundsWith(firm, found) >= 2) {
            bits |= IN_ROUNDS;
        }
        if ((missing & now.partners(firm)) != 0) {
            bits |= MISSING_BESIDE;
        }
        return bits;
    }

    private int roundsWith(int firm, int found) {
        int many = 0;
        for (int i = 0; i < found; i++) {
            many += now.firmsOf(finder.rows[i], finder.lengths[i]) >> firm & 1;
        }
        return many;
    }

    /** Sets aside the rounds that take something, since only those matter when firms are to stop. */
    private int keepWorthy(int found) {
        int missing = now.missing(ruled);
        int kept = 0;
        for (int i = 0; i < found; i++) {
            int worth = now.takenBy(finder.rows[i], finder.lengths[i], missing, ruled);
            if (worth > 0) {
                worths[kept] = worth;
                members[kept] = now.firmsOf(finder.rows[i], finder.lengths[i]);
                kept++;
            }
        }
        return kept;
    }

    private boolean leftIsAtMost(int bits, int worthy, long most) {
        long left = 0;
        for (int i = 0; i < worthy; i++) {
            if ((members[i] & bits) == 0) {
                left += worths[i];
                if (left > most) {
                    return false;
                }
            }
        }
        return true;
    }

    /**
     * What is taken out in each land, and its burden, as the rule isn't anywhere. A firm's sale and
     * purchase bear tax in its own land alone, so the rule in a land takes away just that land's part.
     */
    private void weighLands(int found) {
        int missing = now.missing(0);
        for (int land = 0; land < now.lands.size; land++) {
            landBurden[land] = now.honestSales(land, missing);
            landTakes[land] = 0;
            int guilty = missing & now.firmsIn(land);
            for (int i = 0; i < found; i++) {
                landTakes[land] += now.takenBy(finder.rows[i], finder.lengths[i], guilty, 0);
            }
        }
    }

    private int bestLands(int purse) {
        int best = 0;
        long least = takesOutside(0);
        int lightest = 0;
        for (int lands = 1; lands < 1 << now.lands.size; lands++) {
            int weight = burdenInside(lands);
            long left = takesOutside(lands);
            if (weight <= purse && (left < least || left == least && weight < lightest)) {
                best = lands;
                least = left;
                lightest = weight;
            }
        }
        return best;
    }

    private long takesOutside(int lands) {
        long sum = 0;
        for (int land = 0; land < now.lands.size; land++) {
            sum += (lands >> land & 1) == 0 ? landTakes[land] : 0;
        }
        return sum;
    }

    private int burdenInside(int lands) {
        int sum = 0;
        for (int land = 0; land < now.lands.size; land++) {
            sum += (lands >> land & 1) != 0 ? landBurden[land] : 0;
        }
        return sum;
    }

    /** Names of one kind, numbered as they come, each held as named() is told it. */
    private static final class Names {
        final int[] letters = new int[MOST_FIRMS];
        int size = 0;

        boolean has(int i) {
            return i >= 0 && i < size;
        }

        int find(int name) {
            for (int i = 0; i < size; i++) {
                if (letters[i] == name) {
                    return i;
                }
            }
            return NONE;
        }

        /** The new one's number; NONE if there is no space. */
        int add(int name) {
            if (size >= MOST_FIRMS) {
                return NONE;
            }
            letters[size] = name;
            size++;
            return size - 1;
        }
    }

    /** The sales, those of the book ahead of those told by sell(). */
    private static final class Sales {
        final int[] from = new int[MOST_SALES];
        final int[] to = new int[MOST_SALES];
        final int[] number = new int[MOST_SALES];
        final int[] good = new int[MOST_SALES];
        final int[] price = new int[MOST_SALES];
        final int[] day = new int[MOST_SALES];
        final int[] mark = new int[MOST_SALES];
        int size = 0;
        int told = 0;

        boolean has(int sale) {
            return sale >= 0 && sale < size;
        }

        boolean add(int seller, int buyer, int pieces, int kind, int each, int when, int sign) {
            if (size >= MOST_SALES) {
                return false;
            }
            from[size] = seller;
            to[size] = buyer;
            number[size] = pieces;
            good[size] = kind;
            price[size] = each;
            day[size] = when;
            mark[size] = sign;
            size++;
            return true;
        }

        boolean goRound(int way, int n, long row, int stoppedFirms) {
            int last = saleAt(row, n - 1);
            int sellers = stoppedFirms;
            for (int i = 0; i < n; i++) {
                int sale = saleAt(row, i);
                boolean joined = to[last] == from[sale] && (i == 0 || day[last] <= day[sale]);
                if (!joined || !alike(way, last, sale) || (sellers >> from[sale] & 1) != 0) {
                    return false;
                }
                sellers |= 1 << from[sale];
                last = sale;
            }
            return true;
        }

        private boolean alike(int way, int a, int b) {
            return good[a] == good[b] && (way == 1 || mark[a] == mark[b] && mark[a] != 0);
        }

        boolean soldBelow(int firm) {
            for (int sold = 0; sold < size; sold++) {
                if (from[sold] == firm && boughtDearer(firm, sold)) {
                    return true;
                }
            }
            return false;
        }

        private boolean boughtDearer(int firm, int sold) {
            for (int bought = 0; bought < size; bought++) {
                boolean same = to[bought] == firm && good[bought] == good[sold];
                if (same && day[bought] <= day[sold] && price[bought] > price[sold]) {
                    return true;
                }
            }
            return false;
        }

        /** Bits of those that have bought from one of these firms. */
        int buyersFrom(int sellers) {
            int bits = 0;
            for (int sale = 0; sale < size; sale++) {
                if ((sellers >> from[sale] & 1) != 0) {
                    bits |= 1 << to[sale];
                }
            }
            return bits;
        }

        boolean boughtOnlyFrom(int firm, int sellers) {
            boolean some = false;
            for (int sale = 0; sale < size; sale++) {
                if (to[sale] == firm) {
                    if ((sellers >> from[sale] & 1) == 0) {
                        return false;
                    }
                    some = true;
                }
            }
            return some;
        }

        /** How many sales of a mark, by days, are not from the firm to which the one ahead came. */
        int gapsOf(int sign) {
            int gaps = 0;
            int last = nextOf(sign, NONE);
            for (int step = 0; step < size && last >= 0; step++) {
                int next = nextOf(sign, last);
                if (next >= 0 && from[next] != to[last]) {
                    gaps++;
                }
                last = next;
            }
            return gaps;
        }

        /** The sale of a mark that is next by days, then numbers; the first one behind NONE. */
        private int nextOf(int sign, int last) {
            int next = NONE;
            for (int sale = 0; sale < size; sale++) {
                boolean later = last < 0 || isBefore(last, sale);
                if (mark[sale] == sign && later && (next < 0 || isBefore(sale, next))) {
                    next = sale;
                }
            }
            return next;
        }

        private boolean isBefore(int a, int b) {
            return day[a] != day[b] ? day[a] < day[b] : a < b;
        }
    }

    /** All that a book tells, and what follows from it. */
    private static final class Book {
        final Names lands = new Names();
        final Names goods = new Names();
        final Names firms = new Names();
        final Sales sales = new Sales();
        final int[] tax = new int[MOST_LANDS];
        final int[] land = new int[MOST_FIRMS];
        final int[] since = new int[MOST_FIRMS];
        final int[] hand = new int[MOST_FIRMS];
        final int[] room = new int[MOST_FIRMS];
        final int[] paid = new int[MOST_FIRMS];
        final boolean[] paidTold = new boolean[MOST_FIRMS];
        final int[] party = new int[MOST_FIRMS];
        final int[] owes = new int[MOST_FIRMS];

        void clear() {
            lands.size = 0;
            goods.size = 0;
            firms.size = 0;
            sales.size = 0;
            sales.told = 0;
        }

        /** A firm more without a hand, a room and a paid sum: its number, or NONE. */
        int addFirm(int name, int itsLand, int firstDay) {
            int firm = firms.add(name);
            if (firm >= 0) {
                land[firm] = itsLand;
                since[firm] = firstDay;
                hand[firm] = 0;
                room[firm] = 0;
                paid[firm] = 0;
                paidTold[firm] = false;
            }
            return firm;
        }

        int sinceBoth(int a, int b) {
            return Math.max(since[a], since[b]);
        }

        /** Each firm's party becomes the least firm under its hand. */
        void joinParties() {
            for (int firm = 0; firm < firms.size; firm++) {
                party[firm] = firm;
                for (int other = 0; other < firm; other++) {
                    if (areJoined(firm, other)) {
                        mergeParties(party[firm], party[other]);
                    }
                }
            }
        }

        private boolean areJoined(int a, int b) {
            return hand[a] != 0 && hand[a] == hand[b] || room[a] != 0 && room[a] == room[b];
        }

        private void mergeParties(int a, int b) {
            int least = Math.min(a, b);
            for (int firm = 0; firm < firms.size; firm++) {
                if (party[firm] == a || party[firm] == b) {
                    party[firm] = least;
                }
            }
        }

        /** Bits of the other firms under a firm's hand. */
        int partners(int firm) {
            int bits = 0;
            for (int other = 0; other < firms.size; other++) {
                if (other != firm && party[other] == party[firm]) {
                    bits |= 1 << other;
                }
            }
            return bits;
        }

        int firmsIn(int itsLand) {
            int bits = 0;
            for (int firm = 0; firm < firms.size; firm++) {
                bits |= land[firm] == itsLand ? 1 << firm : 0;
            }
            return bits;
        }

        /** Tax on each piece of a sale, in hundredths. */
        private int taxEach(int sale, int ruledLands) {
            int home = land[sales.from[sale]];
            if (home != land[sales.to[sale]] || (ruledLands >> home & 1) != 0) {
                return 0;
            }
            return sales.price[sale] * tax[home];
        }

        int taxOf(int sale, int ruledLands) {
            return sales.number[sale] * taxEach(sale, ruledLands);
        }

        private void tally(int ruledLands) {
            for (int firm = 0; firm < firms.size; firm++) {
                owes[firm] = 0;
            }
            for (int sale = 0; sale < sales.size; sale++) {
                int sum = taxOf(sale, ruledLands);
                owes[sales.from[sale]] += sum;
                owes[sales.to[sale]] -= sum;
            }
        }

        int owed(int firm, int ruledLands) {
            tally(ruledLands);
            return owes[firm];
        }

        /** Bits of the missing firms. */
        int missing(int ruledLands) {
            tally(ruledLands);
            int bits = 0;
            for (int firm = 0; firm < firms.size; firm++) {
                bits |= owes[firm] > 100 * paid[firm] ? 1 << firm : 0;
            }
            return bits;
        }

        int honestSales(int itsLand, int missingFirms) {
            int honest = firmsIn(itsLand) & ~missingFirms;
            int many = 0;
            for (int sale = 0; sale < sales.size; sale++) {
                many += honest >> sales.from[sale] & honest >> sales.to[sale] & 1;
            }
            return many;
        }

        int firmsOf(long row, int length) {
            int bits = 0;
            for (int i = 0; i < length; i++) {
                bits |= 1 << sales.from[saleAt(row, i)];
            }
            return bits;
        }

        int carriedBy(long row, int length) {
            int least = HIGHEST_NUMBER;
            for (int i = 0; i < length; i++) {
                least = Math.min(least, sales.number[saleAt(row, i)]);
            }
            return least;
        }

        int takenBy(long row, int length, int missingFirms, int ruledLands) {
            int each = 0;
            int bought = saleAt(row, length - 1);
            for (int i = 0; i < length; i++) {
                int sold = saleAt(row, i);
                if ((missingFirms >> sales.from[sold] & 1) != 0) {
                    each += Math.max(0, taxEach(sold, ruledLands) - taxEach(bought, ruledLands));
                }
                bought = sold;
            }
            return each * carriedBy(row, length);
        }
    }

    /** The tape, and the reading of its text into a book up to the first fault. */
    private static final class Reader {
        private static final int AT_END = 0;
        private static final int WORD = 1;
        private static final int NUMBER = 2;
        private static final int STOP = 3;
        private static final int BAD = 4;

        private static final int CANNOT_STAND = 1;
        private static final int TOO_MUCH = 2;
        private static final int TOLD_ALREADY = 3;
        private static final int NOT_TOLD = 4;
        private static final int TOO_EARLY = 5;

        private static final int LAND = 12 << 25 | 1 << 20 | 14 << 15 | 4 << 10;
        private static final int GOOD = 7 << 25 | 15 << 20 | 15 << 15 | 4 << 10;
        private static final int FIRM = 6 << 25 | 9 << 20 | 18 << 15 | 13 << 10;
        private static final int HAND = 8 << 25 | 1 << 20 | 14 << 15 | 4 << 10;
        private static final int ROOM = 18 << 25 | 15 << 20 | 15 << 15 | 13 << 10;
        private static final int SALE = 19 << 25 | 1 << 20 | 12 << 15 | 5 << 10;
        private static final int DAY = 4 << 25 | 1 << 20 | 25 << 15;
        private static final int MARK = 13 << 25 | 1 << 20 | 18 << 15 | 11 << 10;
        private static final int PAID = 16 << 25 | 1 << 20 | 9 << 15 | 4 << 10;

        private final byte[] bytes = new byte[MOST_BYTES];
        int size = 0;
        int fault = 0;
        int faultPlace = NONE;
        private int end = 0;
        private int place = 0;
        private int kind = AT_END;
        private int start = 0;
        private int value = 0;

        boolean hasSpace(int more) {
            return size + more <= MOST_BYTES;
        }

        void push(int four) {
            if (hasSpace(4)) {
                bytes[size] = (byte) (four >> 24);
                bytes[size + 1] = (byte) (four >> 16);
                bytes[size + 2] = (byte) (four >> 8);
                bytes[size + 3] = (byte) four;
                size += 4;
            }
        }

        /** Reads the first n bytes, at most as many as there are, into an empty book: how many lines, or NONE. */
        int read(int n, Book book) {
            end = Math.min(n, size);
            size = 0;
            place = 0;
            fault = 0;
            faultPlace = NONE;
            advance();
            int lines = 0;
            boolean fine = true;
            while (lines < MOST_BYTES && fine && kind != AT_END) {
                // No word has the value 0, so what is no word is no line's word.
                switch (kind == WORD ? value : 0) {
                    case LAND:
                        fine = readLand(book) && lineEnds();
                        break;
                    case GOOD:
                        fine = readGood(book) && lineEnds();
                        break;
                    case FIRM:
                        fine = readFirm(book) && lineEnds();
                        break;
                    case SALE:
                        fine = readSale(book) && lineEnds();
                        break;
                    case PAID:
                        fine = readPaid(book) && lineEnds();
                        break;
                    default:
                        fine = fail(CANNOT_STAND);
                }
                lines++;
            }
            return fine ? lines : NONE;
        }

        private boolean readLand(Book book) {
            int name = newName(book.lands, MOST_LANDS);
            if (name < 0) {
                return false;
            }
            int hundredths = numberWithin(0, HIGHEST_TAX);
            if (hundredths < 0) {
                return false;
            }
            int land = book.lands.add(name);
            if (land >= 0 && land < MOST_LANDS) {
                book.tax[land] = hundredths;
            }
            return true;
        }

        private boolean readGood(Book book) {
            int name = newName(book.goods, MOST_GOODS);
            return name >= 0 && book.goods.add(name) >= 0;
        }

        private boolean readFirm(Book book) {
            int name = newName(book.firms, MOST_FIRMS);
            if (name < 0) {
                return false;
            }
            int land = toldName(book.lands);
            if (land < 0) {
                return false;
            }
            int since = numberWithin(0, LAST_DAY);
            if (since < 0) {
                return false;
            }
            int firm = book.addFirm(name, land, since);
            return firm >= 0 && readTie(book, firm) && readTie(book, firm) && readTie(book, firm);
        }

        /** A hand or a room, if one stands here. The third one in a line is always told already. */
        private boolean readTie(Book book, int firm) {
            if (kind != WORD || value != HAND && value != ROOM) {
                return true;
            }
            int[] ties = value == HAND ? book.hand : book.room;
            if (ties[firm] != 0) {
                return fail(TOLD_ALREADY);
            }
            advance();
            int tie = numberWithin(1, HIGHEST_MARK);
            if (tie < 0) {
                return false;
            }
            ties[firm] = tie;
            return true;
        }

        private boolean readSale(Book book) {
            if (book.sales.size >= MOST_SALES_IN_BOOK) {
                return fail(TOO_MUCH);
            }
            advance();
            int from = toldName(book.firms);
            if (from < 0) {
                return false;
            }
            if (kind == WORD && book.firms.find(value) == from) {
                return fail(TOLD_ALREADY);
            }
            int to = toldName(book.firms);
            if (to < 0) {
                return false;
            }
            int number = numberWithin(1, HIGHEST_NUMBER);
            if (number < 0) {
                return false;
            }
            int good = toldName(book.goods);
            if (good < 0) {
                return false;
            }
            int price = numberWithin(1, HIGHEST_NUMBER);
            if (price < 0) {
                return false;
            }
            int day = readDay(book.sinceBoth(from, to));
            if (day < 0) {
                return false;
            }
            int mark = readMark();
            return mark >= 0 && book.sales.add(from, to, number, good, price, day, mark);
        }

        private int readDay(int since) {
            if (kind != WORD || value != DAY) {
                fail(CANNOT_STAND);
                return NONE;
            }
            advance();
            int at = start;
            int day = numberWithin(0, LAST_DAY);
            if (day >= 0 && day < since) {
                fault = TOO_EARLY;
                faultPlace = at;
                return NONE;
            }
            return day;
        }

        private int readMark() {
            if (kind != WORD || value != MARK) {
                return 0;
            }
            advance();
            return numberWithin(1, HIGHEST_MARK);
        }

        private boolean readPaid(Book book) {
            advance();
            if (kind == WORD) {
                int known = book.firms.find(value);
                if (known >= 0 && book.paidTold[known]) {
                    return fail(TOLD_ALREADY);
                }
            }
            int firm = toldName(book.firms);
            if (firm < 0) {
                return false;
            }
            int sum = numberWithin(0, HIGHEST_PAID);
            if (sum < 0) {
                return false;
            }
            book.paid[firm] = sum;
            book.paidTold[firm] = true;
            return true;
        }

        /** The name behind the word of a line that tells one more of a kind; NONE with a fault. */
        private int newName(Names names, int most) {
            if (names.size >= most) {
                fail(TOO_MUCH);
                return NONE;
            }
            advance();
            if (kind != WORD || isOfLanguage(value)) {
                fail(CANNOT_STAND);
                return NONE;
            }
            if (names.find(value) >= 0) {
                fail(TOLD_ALREADY);
                return NONE;
            }
            int name = value;
            advance();
            return name;
        }

        /** The number of what a name here means; NONE with a fault. */
        private int toldName(Names names) {
            if (kind != WORD || isOfLanguage(value)) {
                fail(CANNOT_STAND);
                return NONE;
            }
            int told = names.find(value);
            if (told < 0) {
                fail(NOT_TOLD);
                return NONE;
            }
            advance();
            return told;
        }

        /** The number that stands here; NONE with a fault. */
        private int numberWithin(int least, int most) {
            if (kind != NUMBER) {
                fail(CANNOT_STAND);
                return NONE;
            }
            if (!within(value, least, most)) {
                fail(TOO_MUCH);
                return NONE;
            }
            int number = value;
            advance();
            return number;
        }

        private boolean lineEnds() {
            if (kind != STOP) {
                return fail(CANNOT_STAND);
            }
            advance();
            return true;
        }

        /** A fault at the token that stands here. Always false, for the reader to hand on. */
        private boolean fail(int what) {
            fault = what;
            faultPlace = start;
            return false;
        }

        private static boolean isOfLanguage(int word) {
            switch (word) {
                case LAND:
                case GOOD:
                case FIRM:
                case HAND:
                case ROOM:
                case SALE:
                case DAY:
                case MARK:
                case PAID:
                    return true;
                default:
                    return false;
            }
        }

        private void advance() {
            while (place < end && (bytes[place] == 10 || bytes[place] == 32)) {
                place++;
            }
            start = place;
            value = 0;
            if (place >= end) {
                kind = AT_END;
            } else if (isLetter(bytes[place])) {
                takeWord();
            } else if (isDigit(bytes[place])) {
                takeNumber();
            } else {
                kind = bytes[place] == ';' ? STOP : BAD;
                place++;
            }
        }

        private void takeWord() {
            while (place < end && isLetter(bytes[place])) {
                int behind = place - start;
                if (behind < 6) {
                    value |= bytes[place] - 'a' + 1 << 25 - 5 * behind;
                }
                place++;
            }
            kind = place - start <= 6 ? WORD : BAD;
        }

        private void takeNumber() {
            kind = NUMBER;
            while (place < end && isDigit(bytes[place])) {
                // Every number above the highest one is as much too much as another.
                value = Math.min(10 * value + bytes[place] - '0', HIGHEST_PAID + 1);
                place++;
            }
        }

        private static boolean isLetter(int sign) {
            return sign >= 'a' && sign <= 'z';
        }

        private static boolean isDigit(int sign) {
            return sign >= '0' && sign <= '9';
        }
    }

    /** Finds the rounds among sales of which it holds its own copy, so that draws can mix them. */
    private static final class Finder {
        final long[] rows = new long[MOST_ROUNDS];
        final int[] lengths = new int[MOST_ROUNDS];
        private final int[] from = new int[MOST_SALES];
        private final int[] to = new int[MOST_SALES];
        private final int[] day = new int[MOST_SALES];
        private final int[] kind = new int[MOST_SALES];
        private final long[] follow = new long[MOST_SALES];
        private final long[] near = new long[MOST_FIRMS * LONGEST_ROUND];
        private int size = 0;
        private int found = 0;
        private int longest = 0;
        private int home = 0;
        private int latest = 0;
        private boolean fresh = false;
        private int knownWay = 0;
        private int knownDays = 0;
        private int knownStopped = 0;

        /** To be called when the sales change: what was found is not to be told again. */
        void forget() {
            fresh = false;
        }

        /** How many rounds there are, or SPENT; they stand in the rows. */
        int find(Sales sales, int way, int k, int d, int stoppedFirms) {
            boolean same = way == knownWay && k == longest && d == knownDays && stoppedFirms == knownStopped;
            if (fresh && same) {
                return found > MOST_ROUNDS ? SPENT : found;
            }
            load(sales, way, stoppedFirms);
            knownWay = way;
            knownDays = d;
            knownStopped = stoppedFirms;
            fresh = true;
            return search(k, d);
        }

        void load(Sales sales, int way, int stoppedFirms) {
            size = sales.size;
            for (int i = 0; i < size; i++) {
                from[i] = sales.from[i];
                to[i] = sales.to[i];
                day[i] = sales.day[i];
                // Sales of one kind may follow one another; those below 0 are in no round.
                kind[i] = sales.good[i] + (way == 0 ? MOST_GOODS * sales.mark[i] : 0);
                boolean unmarked = way == 0 && sales.mark[i] == 0;
                if (unmarked || (stoppedFirms >> from[i] & 1) != 0) {
                    kind[i] = NONE;
                }
            }
        }

        /** Mixes to whom the sales go: the last number drawn, from which the next draw goes on. */
        long shuffle(long last) {
            long number = last;
            for (int i = size - 1; i >= 1; i--) {
                number = number * 1103515245L + 12345L & 2147483647L;
                int other = (int) (number / 65536L % (i + 1));
                int buyer = to[i];
                to[i] = to[other];
                to[other] = buyer;
            }
            return number;
        }

        int search(int k, int d) {
            found = 0;
            longest = k;
            linkSales();
            for (int firm = 0; firm < MOST_FIRMS; firm++) {
                measure(firm);
            }
            for (int first = 0; first < size && found <= MOST_ROUNDS; first++) {
                if (kind[first] >= 0) {
                    home = from[first];
                    latest = day[first] + d;
                    extend(first, 1, first, 1 << home);
                }
            }
            return found > MOST_ROUNDS ? SPENT : found;
        }

        private void linkSales() {
            for (int i = 0; i < size; i++) {
                follow[i] = 0;
                for (int j = 0; j < size && kind[i] >= 0; j++) {
                    if (from[j] == to[i] && kind[j] == kind[i] && day[j] >= day[i]) {
                        follow[i] |= 1L << j;
                    }
                }
            }
        }

        /** Which sales can come home to a firm in so many steps at most: others need not be tried. */
        private void measure(int firm) {
            long reach = 0;
            for (int i = 0; i < size; i++) {
                reach |= kind[i] >= 0 && to[i] == firm ? 1L << i : 0;
            }
            int at = firm * LONGEST_ROUND;
            for (int steps = 1; steps < longest && steps < LONGEST_ROUND; steps++) {
                near[at + steps] = reach;
                long wider = reach;
                for (int i = 0; i < size; i++) {
                    wider |= (follow[i] & reach) != 0 ? 1L << i : 0;
                }
                reach = wider;
            }
        }

        /** Goes on from a row's last sale, lesser sales ahead; sellers are bits of whom its sales are from. */
        private void extend(long row, int length, int last, int sellers) {
            if (to[last] == home) {
                if (length >= 2) {
                    keep(row, length);
                }
                return;
            }
            if (length >= longest || length >= LONGEST_ROUND || (sellers >> to[last] & 1) != 0) {
                return;
            }
            long next = follow[last] & near[home * LONGEST_ROUND + longest - length];
            for (int i = 0; i < size && next >>> i != 0 && found <= MOST_ROUNDS; i++) {
                if ((next >>> i & 1) != 0 && day[i] <= latest) {
                    extend(row | (long) i << 6 * length, length + 1, i, sellers | 1 << to[last]);
                }
            }
        }

        private void keep(long row, int length) {
            if (found < MOST_ROUNDS) {
                rows[found] = row;
                lengths[found] = length;
            }
            found++;
        }
    }

    /**
     * The most of a good that can have gone from a firm and come back. Each sale is a pipe as wide as
     * its number with two ends (in 2i, out 2i + 1); what one sale hands on to another is unbounded.
     */
    private static final class Streams {
        private static final int UNSEEN = -1;
        private static final int SOURCE = -2;

        private final int[] from = new int[MOST_SALES];
        private final int[] to = new int[MOST_SALES];
        private final int[] day = new int[MOST_SALES];
        private final int[] number = new int[MOST_SALES];
        private final int[] carried = new int[MOST_SALES];
        private final int[] handed = new int[MOST_SALES * MOST_SALES];
        private final int[] cameFrom = new int[2 * MOST_SALES];
        private final int[] queue = new int[2 * MOST_SALES];
        private int size = 0;
        private int queued = 0;
        private int home = 0;

        int most(Sales sales, int firm, int good, int stoppedFirms) {
            load(sales, good, stoppedFirms);
            home = firm;
            int sum = 0;
            // Each turn brings one piece home at least, and no more are sold than this.
            for (int turn = 0; turn < MOST_SALES * HIGHEST_NUMBER; turn++) {
                int last = seekHome();
                if (last < 0) {
                    return sum;
                }
                int more = narrowest(last);
                send(last, more);
                sum += more;
            }
            return sum;
        }

        private void load(Sales sales, int good, int stoppedFirms) {
            size = 0;
            for (int i = 0; i < sales.size; i++) {
                int parties = 1 << sales.from[i] | 1 << sales.to[i];
                if (sales.good[i] == good && (parties & stoppedFirms) == 0) {
                    from[size] = sales.from[i];
                    to[size] = sales.to[i];
                    day[size] = sales.day[i];
                    number[size] = sales.number[i];
                    carried[size] = 0;
                    size++;
                }
            }
            for (int i = 0; i < size * size; i++) {
                handed[i] = 0;
            }
        }

        /** The end of a sale that comes home by a way on which there is space; NONE without. */
        private int seekHome() {
            queued = 0;
            for (int i = 0; i < size; i++) {
                cameFrom[2 * i] = UNSEEN;
                cameFrom[2 * i + 1] = UNSEEN;
                if (from[i] == home) {
                    visit(2 * i, SOURCE);
                }
            }
            for (int done = 0; done < queued && done < queue.length; done++) {
                int node = queue[done];
                int sale = node / 2;
                if (node % 2 == 0) {
                    spreadIn(sale);
                } else if (to[sale] == home) {
                    return node;
                } else {
                    spreadOut(sale);
                }
            }
            return NONE;
        }

        private void visit(int node, int origin) {
            if (cameFrom[node] == UNSEEN && queued < queue.length) {
                cameFrom[node] = origin;
                queue[queued] = node;
                queued++;
            }
        }

        private void spreadIn(int sale) {
            if (carried[sale] < number[sale]) {
                visit(2 * sale + 1, 2 * sale);
            }
            for (int giver = 0; giver < size; giver++) {
                if (handed[giver * size + sale] > 0) {
                    visit(2 * giver + 1, 2 * sale);
                }
            }
        }

        private void spreadOut(int sale) {
            if (carried[sale] > 0) {
                visit(2 * sale, 2 * sale + 1);
            }
            for (int taker = 0; taker < size; taker++) {
                if (from[taker] == to[sale] && day[taker] >= day[sale]) {
                    visit(2 * taker, 2 * sale + 1);
                }
            }
        }

        private int narrowest(int last) {
            int least = HIGHEST_NUMBER;
            int node = last;
            for (int step = 0; step < queue.length && cameFrom[node] >= 0; step++) {
                least = Math.min(least, space(cameFrom[node], node));
                node = cameFrom[node];
            }
            return least;
        }

        /** How much more can go from one end to the next; back along what has been sent, too. */
        private int space(int a, int b) {
            int sale = a / 2;
            int other = b / 2;
            if (sale == other) {
                return a < b ? number[sale] - carried[sale] : carried[sale];
            }
            return a % 2 == 0 ? handed[other * size + sale] : HIGHEST_NUMBER;
        }

        private void send(int last, int more) {
            int node = last;
            for (int step = 0; step < queue.length && cameFrom[node] >= 0; step++) {
                addBetween(cameFrom[node], node, more);
                node = cameFrom[node];
            }
        }

        private void addBetween(int a, int b, int more) {
            int sale = a / 2;
            int other = b / 2;
            if (sale == other) {
                carried[sale] += a < b ? more : -more;
            } else if (a % 2 == 0) {
                handed[other * size + sale] -= more;
            } else {
                handed[sale * size + other] += more;
            }
        }
    }
}
