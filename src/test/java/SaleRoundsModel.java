import java.util.ArrayList;
import java.util.Arrays;
import java.util.Comparator;
import java.util.HashMap;
import java.util.List;
import java.util.Map;
import java.util.NoSuchElementException;
import java.util.TreeSet;

/**
 * The document once more, as plainly as it can be written and without care for time or room. It shares
 * nothing with SaleRounds, so that both can be held against one another.
 */
final class SaleRoundsModel {
    static final class Fault extends RuntimeException {
        final int code;
        final int place;

        Fault(int code, int place) {
            this.code = code;
            this.place = place;
        }
    }

    record Token(char kind, String text, int place) {
    }

    record Land(String name, int tax) {
    }

    static final class Firm {
        String name;
        int land;
        int since;
        int hand;
        int room;
        Integer paid;

        int paidIn() {
            return paid == null ? 0 : paid;
        }
    }

    record Sale(int from, int to, int number, int good, int price, int day, int mark) {
        Sale toFirm(int other) {
            return new Sale(from, other, number, good, price, day, mark);
        }
    }

    static final class State {
        final List<Land> lands = new ArrayList<>();
        final List<String> goods = new ArrayList<>();
        final List<Firm> firms = new ArrayList<>();
        final List<Sale> sales = new ArrayList<>();
        int lines;
    }

    static final List<String> LANGUAGE = List.of("land", "good", "firm", "hand", "room", "sale", "day", "mark", "paid");

    private final List<Integer> tape = new ArrayList<>();
    private State state = new State();
    private int toldSales;
    private int stopped;
    private int ruled;
    private int fault;
    private int faultPlace = -1;

    // ---- the text

    static final class Parser {
        final List<Token> tokens = new ArrayList<>();
        final State s = new State();
        int at;

        Parser(int[] bytes) {
            int i = 0;
            while (i < bytes.length) {
                int from = i;
                if (bytes[i] == 10 || bytes[i] == 32) {
                    i++;
                } else if (bytes[i] >= 'a' && bytes[i] <= 'z') {
                    StringBuilder b = new StringBuilder();
                    while (i < bytes.length && bytes[i] >= 'a' && bytes[i] <= 'z') {
                        b.append((char) bytes[i++]);
                    }
                    tokens.add(new Token(b.length() > 6 ? '?' : 'w', b.toString(), from));
                } else if (bytes[i] >= '0' && bytes[i] <= '9') {
                    StringBuilder b = new StringBuilder();
                    while (i < bytes.length && bytes[i] >= '0' && bytes[i] <= '9') {
                        b.append((char) bytes[i++]);
                    }
                    tokens.add(new Token('n', b.toString(), from));
                } else {
                    tokens.add(new Token(bytes[i] == ';' ? ';' : '?', "", from));
                    i++;
                }
            }
            tokens.add(new Token('e', "", bytes.length));
        }

        Token peek() {
            return tokens.get(at);
        }

        Token name() {
            Token t = peek();
            if (t.kind != 'w' || LANGUAGE.contains(t.text)) {
                throw new Fault(1, t.place);
            }
            at++;
            return t;
        }

        int number(int least, int most) {
            Token t = peek();
            if (t.kind != 'n') {
                throw new Fault(1, t.place);
            }
            java.math.BigInteger n = new java.math.BigInteger(t.text);
            if (n.compareTo(java.math.BigInteger.valueOf(least)) < 0 || n.compareTo(java.math.BigInteger.valueOf(most)) > 0) {
                throw new Fault(2, t.place);
            }
            at++;
            return n.intValue();
        }

        boolean word(String w) {
            return peek().kind == 'w' && peek().text.equals(w);
        }

        void must(boolean fine, int code, Token t) {
            if (!fine) {
                throw new Fault(code, t.place);
            }
        }

        int firmNumber(String name) {
            for (int i = 0; i < s.firms.size(); i++) {
                if (s.firms.get(i).name.equals(name)) {
                    return i;
                }
            }
            return -1;
        }

        int landNumber(String name) {
            for (int i = 0; i < s.lands.size(); i++) {
                if (s.lands.get(i).name.equals(name)) {
                    return i;
                }
            }
            return -1;
        }

        State parse() {
            while (peek().kind != 'e') {
                Token t = peek();
                must(t.kind == 'w', 1, t);
                switch (t.text) {
                    case "land" -> land(t);
                    case "good" -> good(t);
                    case "firm" -> firm(t);
                    case "sale" -> sale(t);
                    case "paid" -> paid();
                    default -> throw new Fault(1, t.place);
                }
                must(peek().kind == ';', 1, peek());
                at++;
                s.lines++;
            }
            return s;
        }

        void land(Token line) {
            must(s.lands.size() < 5, 2, line);
            at++;
            Token n = name();
            must(landNumber(n.text) < 0, 3, n);
            s.lands.add(new Land(n.text, number(0, 40)));
        }

        void good(Token line) {
            must(s.goods.size() < 4, 2, line);
            at++;
            Token n = name();
            must(!s.goods.contains(n.text), 3, n);
            s.goods.add(n.text);
        }

        void firm(Token line) {
            must(s.firms.size() < 12, 2, line);
            at++;
            Token n = name();
            must(firmNumber(n.text) < 0, 3, n);
            Firm f = new Firm();
            f.name = n.text;
            Token l = name();
            f.land = landNumber(l.text);
            must(f.land >= 0, 4, l);
            f.since = number(0, 400);
            while (word("hand") || word("room")) {
                Token w = peek();
                boolean hand = word("hand");
                must((hand ? f.hand : f.room) == 0, 3, w);
                at++;
                int v = number(1, 99);
                if (hand) {
                    f.hand = v;
                } else {
                    f.room = v;
                }
            }
            s.firms.add(f);
        }

        void sale(Token line) {
            must(s.sales.size() < 30, 2, line);
            at++;
            Token a = name();
            int from = firmNumber(a.text);
            must(from >= 0, 4, a);
            Token b = name();
            int to = firmNumber(b.text);
            must(!a.text.equals(b.text), 3, b);
            must(to >= 0, 4, b);
            int number = number(1, 999);
            Token g = name();
            int good = s.goods.indexOf(g.text);
            must(good >= 0, 4, g);
            int price = number(1, 999);
            must(word("day"), 1, peek());
            at++;
            Token dayToken = peek();
            int day = number(0, 400);
            must(day >= s.firms.get(from).since && day >= s.firms.get(to).since, 5, dayToken);
            int mark = 0;
            if (word("mark")) {
                at++;
                mark = number(1, 99);
            }
            s.sales.add(new Sale(from, to, number, good, price, day, mark));
        }

        void paid() {
            at++;
            Token f = name();
            int firm = firmNumber(f.text);
            must(firm >= 0, 4, f);
            must(s.firms.get(firm).paid == null, 3, f);
            s.firms.get(firm).paid = number(0, 999999);
        }
    }

    int feed(int a, int b, int c, int d, int e) {
        if (tape.size() + 20 > 800) {
            return -1;
        }
        for (int x : new int[] {a, b, c, d, e}) {
            for (int shift = 24; shift >= 0; shift -= 8) {
                tape.add(x >>> shift & 255);
            }
        }
        return tape.size();
    }

    int book(int n) {
        if (n < 0 || n > tape.size()) {
            return -2;
        }
        int[] bytes = new int[n];
        for (int i = 0; i < n; i++) {
            bytes[i] = tape.get(i);
        }
        tape.clear();
        fault = 0;
        faultPlace = -1;
        try {
            state = new Parser(bytes).parse();
        } catch (Fault f) {
            fault = f.code;
            faultPlace = f.place;
            return -1;
        }
        toldSales = 0;
        stopped = 0;
        ruled = 0;
        return state.lines;
    }

    int fault(int what) {
        return what == 0 ? fault : what == 1 ? faultPlace : -1;
    }

    static int packed(String name) {
        int letters = 0;
        for (int i = 0; i < 6; i++) {
            letters = letters * 32 + (i < name.length() ? name.charAt(i) - 'a' + 1 : 0);
        }
        return letters;
    }

    int named(int what, int letters) {
        List<String> names = new ArrayList<>();
        if (what == 0) {
            state.lands.forEach(l -> names.add(l.name));
        } else if (what == 1) {
            names.addAll(state.goods);
        } else if (what == 2) {
            state.firms.forEach(f -> names.add(f.name));
        }
        for (String name : names) {
            if (packed(name) == letters) {
                return names.indexOf(name);
            }
        }
        return -1;
    }

    // ---- sums

    int tax(Sale s, int rule) {
        int a = state.firms.get(s.from).land;
        int b = state.firms.get(s.to).land;
        return a == b && (rule & 1 << a) == 0 ? s.number * s.price * state.lands.get(a).tax : 0;
    }

    long owes(int firm, int rule) {
        long sum = 0;
        for (Sale s : state.sales) {
            sum += s.from == firm ? tax(s, rule) : 0;
            sum -= s.to == firm ? tax(s, rule) : 0;
        }
        return sum;
    }

    boolean isMissing(int firm, int rule) {
        return owes(firm, rule) - 100L * state.firms.get(firm).paidIn() > 0;
    }

    boolean hasFirm(int firm) {
        return firm >= 0 && firm < state.firms.size();
    }

    int look(int sale, int what) {
        if (sale < 0 || sale >= state.sales.size()) {
            throw new IndexOutOfBoundsException();
        }
        Sale s = state.sales.get(sale);
        int[] all = {s.from, s.to, s.number, s.good, s.price, s.day, s.mark, tax(s, ruled)};
        if (what < 0 || what > 7) {
            throw new NoSuchElementException();
        }
        return all[what];
    }

    TreeSet<Integer> party(int firm) {
        TreeSet<Integer> all = new TreeSet<>(List.of(firm));
        for (boolean more = true; more;) {
            more = false;
            for (int a : all.toArray(new Integer[0])) {
                for (int b = 0; b < state.firms.size(); b++) {
                    Firm x = state.firms.get(a);
                    Firm y = state.firms.get(b);
                    if (x.hand > 0 && x.hand == y.hand || x.room > 0 && x.room == y.room) {
                        more |= all.add(b);
                    }
                }
            }
        }
        return all;
    }

    int firm(int firm, int what) {
        if (!hasFirm(firm) || what < 0 || what > 7) {
            return Integer.MIN_VALUE;
        }
        Firm f = state.firms.get(firm);
        long[] all = {f.land, f.since, f.hand, f.room, owes(firm, ruled), 100L * f.paidIn(), isMissing(firm, ruled) ? 1 : 0, party(firm).first()};
        return Math.toIntExact(all[what]);
    }

    int sell(int from, int to, int number, int good, int price, int day, int mark) {
        boolean fine = hasFirm(from) && hasFirm(to) && from != to && number >= 1 && number <= 999
            && good >= 0 && good < state.goods.size() && price >= 1 && price <= 999
            && day >= 0 && day <= 400 && mark >= 0 && mark <= 99 && state.sales.size() < 40;
        if (!fine || day < state.firms.get(from).since || day < state.firms.get(to).since) {
            return -1;
        }
        state.sales.add(new Sale(from, to, number, good, price, day, mark));
        toldSales++;
        return state.sales.size() - 1;
    }

    int undo() {
        if (toldSales == 0) {
            return -1;
        }
        state.sales.remove(state.sales.size() - 1);
        return --toldSales;
    }

    int pay(int firm, int sum) {
        if (!hasFirm(firm) || sum < 0 || sum > 999999 || state.firms.get(firm).paidIn() + sum > 999999) {
            return -1;
        }
        state.firms.get(firm).paid = state.firms.get(firm).paidIn() + sum;
        return state.firms.get(firm).paid;
    }

    // ---- rounds

    /** The promise of a round, tested on a whole row, however it came about. */
    static boolean isRound(List<Sale> sales, int[] row, int way, int d, int stop) {
        if (row.length < 2) {
            return false;
        }
        Sale first = sales.get(row[0]);
        Sale last = sales.get(row[row.length - 1]);
        int seen = 0;
        for (int i = 0; i < row.length; i++) {
            Sale s = sales.get(row[i]);
            if (s.good != first.good || way == 0 && (s.mark == 0 || s.mark != first.mark)) {
                return false;
            }
            if ((seen & 1 << s.from) != 0 || (stop & 1 << s.from) != 0 || (stop & 1 << s.to) != 0) {
                return false;
            }
            seen |= 1 << s.from;
            if (i > 0 && (sales.get(row[i - 1]).to != s.from || sales.get(row[i - 1]).day > s.day)) {
                return false;
            }
        }
        return last.to == first.from && last.day - first.day <= d;
    }

    static void grow(List<Sale> sales, int[] row, int way, int k, int d, int stop, List<int[]> into) {
        if (into.size() > 3000) {
            return;
        }
        if (isRound(sales, row, way, d, stop)) {
            into.add(row);
        }
        if (row.length == k) {
            return;
        }
        for (int i = sales.size() - 1; i >= 0; i--) {
            if (row.length == 0 || sales.get(row[row.length - 1]).to == sales.get(i).from) {
                int[] longer = Arrays.copyOf(row, row.length + 1);
                longer[row.length] = i;
                boolean again = false;
                for (int j = 0; j < row.length; j++) {
                    again |= sales.get(row[j]).from == sales.get(i).from;
                }
                if (!again) {
                    grow(sales, longer, way, k, d, stop, into);
                }
            }
        }
    }

    /** Null with more than 200 of them. */
    static List<int[]> allRounds(List<Sale> sales, int way, int k, int d, int stop) {
        List<int[]> all = new ArrayList<>();
        grow(sales, new int[0], way, k, d, stop, all);
        all.sort(Comparator.comparing(row -> row, Arrays::compare));
        return all.size() > 200 ? null : all;
    }

    static boolean badRounds(int way, int k, int d) {
        return way < 0 || way > 1 || k < 2 || k > 6 || d < 0 || d > 400;
    }

    List<int[]> now(int way, int k, int d) {
        return allRounds(state.sales, way, k, d, stopped);
    }

    int rounds(int way, int k, int d) {
        if (badRounds(way, k, d)) {
            return -1;
        }
        List<int[]> all = now(way, k, d);
        return all == null ? -2 : all.size();
    }

    int carries(int[] row) {
        return Arrays.stream(row).map(i -> state.sales.get(i).number).min().getAsInt();
    }

    int firmsOf(int[] row) {
        return Arrays.stream(row).map(i -> 1 << state.sales.get(i).from | 1 << state.sales.get(i).to).reduce(0, (a, b) -> a | b);
    }

    /** What a round takes with tax 0 in the lands zero, those missing being as with the rule in missingRule. */
    long taken(int[] row, int zero, int missingRule) {
        long sum = 0;
        for (int firm = 0; firm < state.firms.size(); firm++) {
            if ((firmsOf(row) & 1 << firm) == 0 || !isMissing(firm, missingRule)) {
                continue;
            }
            long gain = 0;
            for (int i : row) {
                Sale s = state.sales.get(i);
                long each = tax(s, zero) / s.number;
                gain += s.from == firm ? each : 0;
                gain -= s.to == firm ? each : 0;
            }
            sum += gain > 0 ? gain * carries(row) : 0;
        }
        return sum;
    }

    int round(int way, int k, int d, int i, int what) {
        int n = rounds(way, k, d);
        if (n < 0) {
            return n;
        }
        if (i < 0 || i >= n || what < 0) {
            return -1;
        }
        int[] row = now(way, k, d).get(i);
        return switch (what) {
            case 0 -> row.length;
            case 1 -> carries(row);
            case 2 -> Math.toIntExact(taken(row, ruled, ruled));
            case 3 -> firmsOf(row);
            default -> what < 4 + row.length ? row[what - 4] : -1;
        };
    }

    int judge(int way, int n, long sales) {
        if (way < 0 || way > 1 || n < 2 || n > 6) {
            return -1;
        }
        int[] row = new int[n];
        for (int i = 0; i < n; i++) {
            row[i] = (int) (sales >> 6 * i) & 63;
            if (row[i] >= state.sales.size()) {
                return -1;
            }
        }
        return isRound(state.sales, row, way, 400, stopped) ? 1 : 0;
    }

    long takes(int way, int k, int d) {
        int n = rounds(way, k, d);
        return n < 0 ? n : now(way, k, d).stream().mapToLong(row -> taken(row, ruled, ruled)).sum();
    }

    /** Flow through days: a node for each firm on each day, goods may lie from day to day. */
    int flow(int firm, int good) {
        if (!hasFirm(firm) || good < 0 || good >= state.goods.size()) {
            return -1;
        }
        Map<Integer, Map<Integer, Integer>> space = new HashMap<>();
        int source = -1;
        int sink = -2;
        TreeSet<Integer> days = new TreeSet<>();
        for (Sale s : state.sales) {
            days.add(s.day);
        }
        for (Sale s : state.sales) {
            if (s.good == good && (stopped & (1 << s.from | 1 << s.to)) == 0) {
                int a = s.from == firm ? source : s.day * 100 + s.from;
                int b = s.to == firm ? sink : s.day * 100 + s.to;
                space.computeIfAbsent(a, x -> new HashMap<>()).merge(b, s.number, Integer::sum);
            }
        }
        for (int day : days) {
            Integer next = days.higher(day);
            for (int f = 0; next != null && f < state.firms.size(); f++) {
                space.computeIfAbsent(day * 100 + f, x -> new HashMap<>()).merge(next * 100 + f, 1000000, Integer::sum);
            }
        }
        int sum = 0;
        while (true) {
            int more = push(space, source, sink, 1000000, new TreeSet<>());
            if (more == 0) {
                return sum;
            }
            sum += more;
        }
    }

    static int push(Map<Integer, Map<Integer, Integer>> space, int at, int sink, int most, TreeSet<Integer> seen) {
        if (at == sink) {
            return most;
        }
        seen.add(at);
        for (int next : new ArrayList<>(space.getOrDefault(at, Map.of()).keySet())) {
            int can = Math.min(most, space.get(at).get(next));
            if (can > 0 && !seen.contains(next)) {
                int done = push(space, next, sink, can, seen);
                if (done > 0) {
                    space.get(at).merge(next, -done, Integer::sum);
                    space.computeIfAbsent(next, x -> new HashMap<>()).merge(at, done, Integer::sum);
                    return done;
                }
            }
        }
        return 0;
    }

    int luck(int way, int k, int d, int seed, int draws) {
        if (badRounds(way, k, d) || seed < 0 || draws < 1 || draws > 10) {
            return -1;
        }
        int n = rounds(way, k, d);
        if (n < 0) {
            return n;
        }
        long number = seed;
        int many = 0;
        for (int draw = 0; draw < draws; draw++) {
            List<Sale> mixed = new ArrayList<>(state.sales);
            for (int i = mixed.size() - 1; i > 0; i--) {
                number = (number * 1103515245L + 12345L) % 2147483648L;
                int j = (int) (number / 65536 % (i + 1));
                int to = mixed.get(i).to;
                mixed.set(i, mixed.get(i).toFirm(mixed.get(j).to));
                mixed.set(j, mixed.get(j).toFirm(i == j ? mixed.get(i).to : to));
            }
            List<int[]> all = allRounds(mixed, way, k, d, stopped);
            if (all == null) {
                return -2;
            }
            many += all.size() >= n ? 1 : 0;
        }
        return many;
    }

    // ---- who knew

    int signsOf(int firm, List<int[]> all) {
        boolean below = false;
        boolean bought = false;
        boolean tainted = true;
        for (Sale b : state.sales) {
            if (b.to != firm) {
                continue;
            }
            bought = true;
            for (Sale s : state.sales) {
                below |= s.from == firm && s.good == b.good && b.day <= s.day && s.price < b.price;
            }
            boolean such = isMissing(b.from, ruled);
            for (Sale s : state.sales) {
                such |= s.to == b.from && isMissing(s.from, ruled);
            }
            tainted &= such;
        }
        boolean beside = party(firm).stream().anyMatch(f -> f != firm && isMissing(f, ruled));
        long in = all.stream().filter(row -> (firmsOf(row) & 1 << firm) != 0).count();
        return (below ? 1 : 0) | (bought && tainted ? 2 : 0) | (in >= 2 ? 4 : 0) | (beside ? 8 : 0);
    }

    int signs(int firm, int way, int k, int d) {
        if (!hasFirm(firm)) {
            return -1;
        }
        int n = rounds(way, k, d);
        return n < 0 ? n : signsOf(firm, now(way, k, d));
    }

    int knew(int signs, int way, int k, int d, int what) {
        if (signs < 1 || signs > 15 || what < 0 || what > 1) {
            return -1;
        }
        int n = rounds(way, k, d);
        if (n < 0) {
            return n;
        }
        List<int[]> all = now(way, k, d);
        int bits = 0;
        for (int firm = 0; firm < state.firms.size(); firm++) {
            int has = signsOf(firm, all) & signs;
            if (!isMissing(firm, ruled) && (what == 0 ? has == signs : has != 0)) {
                bits |= 1 << firm;
            }
        }
        return bits;
    }

    int hands() {
        TreeSet<Integer> least = new TreeSet<>();
        for (int firm = 0; firm < state.firms.size(); firm++) {
            least.add(party(firm).first());
        }
        return least.size();
    }

    int lacking(int mark) {
        if (mark < 1 || mark > 99) {
            return -1;
        }
        List<Sale> of = new ArrayList<>(state.sales.stream().filter(s -> s.mark == mark).toList());
        of.sort(Comparator.comparingInt(Sale::day));
        int gaps = 0;
        for (int i = 1; i < of.size(); i++) {
            gaps += of.get(i).from != of.get(i - 1).to ? 1 : 0;
        }
        return gaps;
    }

    // ---- what to do

    int stop(int firms) {
        if (firms < 0 || firms >= 1 << state.firms.size()) {
            return -1;
        }
        stopped = firms;
        return Integer.bitCount(firms);
    }

    int fewest(int way, int k, int d, long t) {
        int n = t < 0 ? -1 : rounds(way, k, d);
        if (n < 0) {
            return n;
        }
        List<int[]> all = now(way, k, d);
        long[] taken = all.stream().mapToLong(row -> taken(row, ruled, ruled)).toArray();
        int[] firms = all.stream().mapToInt(this::firmsOf).toArray();
        int best = -1;
        for (int bits = 0; bits < 1 << state.firms.size(); bits++) {
            long left = 0;
            for (int i = 0; i < n; i++) {
                left += (firms[i] & bits) == 0 ? taken[i] : 0;
            }
            if (left <= t && (best < 0 || Integer.bitCount(bits) < Integer.bitCount(best))) {
                best = bits;
            }
        }
        return best;
    }

    int rule(int lands) {
        if (lands < 0 || lands >= 1 << state.lands.size()) {
            return -1;
        }
        ruled = lands;
        return Integer.bitCount(lands);
    }

    int burden(int land) {
        if (land < 0 || land >= state.lands.size()) {
            return -1;
        }
        int many = 0;
        for (Sale s : state.sales) {
            boolean inside = state.firms.get(s.from).land == land && state.firms.get(s.to).land == land;
            many += inside && !isMissing(s.from, 0) && !isMissing(s.to, 0) ? 1 : 0;
        }
        return many;
    }

    long starve(int way, int k, int d, int purse, int what) {
        if (purse < 0 || what < 0 || what > 2) {
            return -1;
        }
        int n = rounds(way, k, d);
        if (n < 0) {
            return n;
        }
        List<int[]> all = now(way, k, d);
        List<long[]> sets = new ArrayList<>();
        for (int bits = 0; bits < 1 << state.lands.size(); bits++) {
            long weight = 0;
            for (int land = 0; land < state.lands.size(); land++) {
                weight += (bits & 1 << land) != 0 ? burden(land) : 0;
            }
            if (weight <= purse) {
                int zero = bits;
                sets.add(new long[] {all.stream().mapToLong(row -> taken(row, zero, 0)).sum(), weight, bits});
            }
        }
        sets.sort(Arrays::compare);
        return sets.get(0)[what == 0 ? 2 : what == 1 ? 0 : 1];
    }

    int count(int what) {
        int missing = 0;
        for (int firm = 0; firm < state.firms.size(); firm++) {
            missing += isMissing(firm, ruled) ? 1 : 0;
        }
        int[] all = {state.lands.size(), state.goods.size(), state.firms.size(), state.sales.size(), toldSales,
            Integer.bitCount(stopped), Integer.bitCount(ruled), missing};
        return what < 0 || what > 7 ? -1 : all[what];
    }
}
