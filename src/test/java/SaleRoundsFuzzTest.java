import java.nio.charset.StandardCharsets;
import java.util.Random;

/** Long runs of drawn calls, right and wrong ones, on SaleRounds and on the model: all answers are to be alike. */
public final class SaleRoundsFuzzTest {
    private static final String[] NAMES = {"a", "b", "c", "d", "e", "f", "g", "h", "i", "j", "k", "l", "m", "zz", "abcdef", "lands", "da"};

    private final Random random;
    private final SaleRounds real = new SaleRounds();
    private final SaleRoundsModel model = new SaleRoundsModel();
    private final StringBuilder told = new StringBuilder();
    private int firms;
    private int goods;
    private int lastDay;
    private int[] asked = {1, 6, 400};
    private int calls;
    private int spent;
    private int faults;
    private int books;

    private SaleRoundsFuzzTest(long seed) {
        random = new Random(seed);
    }

    private int upTo(int n) {
        return random.nextInt(n + 1);
    }

    private int pick(int... from) {
        return from[random.nextInt(from.length)];
    }

    private String gap() {
        return pick(0, 0, 0, 0, 0, 1) == 1 ? "\n " : " ";
    }

    /** A text that is mostly right: few or many firms, days near to one another or wide. */
    private String text() {
        StringBuilder t = new StringBuilder();
        int lands = upTo(20) == 0 ? 6 : pick(1, 1, 1, 2, 2, 3, 5);
        boolean pairs = upTo(2) == 0;
        goods = upTo(20) == 0 ? 5 : pick(1, 1, 1, 2, 4);
        firms = upTo(20) == 0 ? 13 : pick(2, 3, 3, 4, 5, 6, 8, 12);
        lastDay = pick(0, 1, 3, 5, 12, 40, 400);
        int marks = pick(1, 1, 2, 5);
        for (int i = 0; i < lands; i++) {
            t.append("land").append(gap()).append(NAMES[i]).append(gap()).append(pick(0, 1, 10, 20, 33, 40, 40)).append(";");
        }
        for (int i = 0; i < goods; i++) {
            t.append("good ").append(NAMES[i]).append(gap()).append(";");
        }
        boolean late = upTo(3) == 0;
        for (int i = 0; i < firms; i++) {
            t.append("firm ").append(NAMES[i]).append(gap()).append(NAMES[random.nextInt(lands)]).append(" ").append(late ? upTo(Math.min(lastDay, 3)) : 0);
            boolean turned = random.nextBoolean();
            for (int j = 0; j < 2; j++) {
                if (upTo(3) == 0) {
                    t.append((j == 0) == turned ? " hand " : "room ").append(1 + upTo(3));
                }
            }
            t.append(";");
        }
        int most = upTo(20) == 0 ? 31 : pick(3, 8, 12, 18, 30);
        for (int i = 0; i < most && t.length() < 740; i++) {
            int from = random.nextInt(firms);
            int to = upTo(3) == 0 ? random.nextInt(firms) : (from + 1) % firms;
            if (pairs) {
                from = i % firms;
                to = i / firms % 2 == 0 ? from ^ 1 : (from ^ 3);
                to = to >= firms ? (from + 1) % firms : to;
            }
            if (to == from && upTo(200) > 0) {
                to = (from + 1) % firms;
            }
            t.append("sale ").append(NAMES[from]).append(" ").append(NAMES[to]).append(1 + upTo(pick(9, 9, 998))).append(NAMES[random.nextInt(goods)]);
            t.append(1 + upTo(pick(9, 99, 998))).append("day").append(Math.min(400, upTo(lastDay) + (late ? 2 : 0)));
            if (upTo(3) > 0) {
                t.append("mark").append(1 + random.nextInt(marks));
            }
            t.append(";");
        }
        for (int i = 0; i < firms && t.length() < 780; i++) {
            if (upTo(8) == 0) {
                t.append("paid ").append(NAMES[i]).append(" ").append(upTo(pick(9, 999, 99999, 999999))).append(";");
            }
        }
        return t.toString();
    }

    /** Something small goes wrong with it. */
    private String spoiled(String text) {
        if (text.isEmpty()) {
            return text;
        }
        StringBuilder t = new StringBuilder(text);
        int at = random.nextInt(t.length());
        switch (upTo(6)) {
            case 0 -> t.deleteCharAt(at);
            case 1 -> t.insert(at, (char) pick('a', 'z', '0', '9', ';', ' ', '\n', '-', 'A', 0, 200, '\t', '\r', '`', '{', '/', ':'));
            case 2 -> t.setCharAt(at, (char) pick('a', 'p', '0', '7', ';', ' ', 255, 127, 128));
            case 3 -> t.setLength(at);
            case 4 -> {
                String[] words = {" land ", " day ", " hand 1 ", "room 2", "mark", " paid ", "sale", "0", "99999999999999999999", "00000000000000000001", "abcdefg"};
                t.insert(at, words[random.nextInt(words.length)]);
            }
            case 5 -> {
                int from = Math.max(0, text.lastIndexOf(';', at) + 1);
                int to = text.indexOf(';', from) + 1;
                if (to > from) {
                    t.insert(from, text.substring(from, to));
                }
            }
            default -> t.append(pick(' ', 'l', ';', '1'));
        }
        return t.toString().chars().filter(c -> c < 256).collect(StringBuilder::new, StringBuilder::appendCodePoint, StringBuilder::append).toString();
    }

    private void tell(String text) {
        byte[] bytes = text.getBytes(StandardCharsets.ISO_8859_1);
        int n = Math.min(bytes.length, 800);
        for (int i = 0; i < n; i += 20) {
            int[] five = new int[5];
            for (int j = 0; j < 20; j++) {
                int one = i + j < n ? bytes[i + j] & 255 : pick(32, 'a', ';');
                five[j / 4] = five[j / 4] << 8 | one;
            }
            same("feed", real.feed(five[0], five[1], five[2], five[3], five[4]), model.feed(five[0], five[1], five[2], five[3], five[4]));
        }
        told.append("\n  text ").append(text);
        int lines = model.book(n);
        same("book(" + n + ")", real.book(n), lines);
        same("fault 0", real.fault(0), model.fault(0));
        same("fault 1", real.fault(1), model.fault(1));
        books++;
        faults += lines < 0 ? 1 : 0;
    }

    private void same(String call, long got, long due) {
        told.append("\n  ").append(call).append(" = ").append(due);
        calls++;
        spent += due == -2 ? 1 : 0;
        if (got != due) {
            throw new IllegalStateException(call + " answered " + got + ", due is " + due + told);
        }
    }

    private void sameLook(int sale, int what) {
        String got;
        String due;
        try {
            got = "" + real.look(sale, what);
        } catch (RuntimeException e) {
            got = e.getClass().getName();
        }
        try {
            due = "" + model.look(sale, what);
        } catch (RuntimeException e) {
            due = e.getClass().getName();
        }
        if (!got.equals(due)) {
            throw new IllegalStateException("look " + sale + " " + what + " answered " + got + ", due is " + due + told);
        }
    }

    private int oddly(int usual) {
        return upTo(40) == 0 ? pick(-1, -2, 41, 401, 1000, 1000000, Integer.MAX_VALUE, Integer.MIN_VALUE) : usual;
    }

    private void change() {
        switch (upTo(9)) {
            case 0 -> {
                int bits = oddly(random.nextInt(1 << Math.min(firms, 12)) & random.nextInt() & random.nextInt());
                same("stop " + bits, real.stop(bits), model.stop(bits));
            }
            case 1 -> {
                int bits = oddly(upTo(pick(0, 1, 3, 8)));
                same("rule " + bits, real.rule(bits), model.rule(bits));
            }
            case 2 -> {
                int firm = oddly(random.nextInt(firms));
                int sum = oddly(upTo(pick(0, 9, 9, 99, 99, 999, 999999)));
                same("pay " + firm + " " + sum, real.pay(firm, sum), model.pay(firm, sum));
            }
            case 3 -> same("undo", real.undo(), model.undo());
            case 4 -> {
                int n = oddly(upTo(3));
                if (upTo(5) == 0 && n != 0) {
                    same("book " + n, real.book(n), model.book(n));
                }
            }
            default -> {
                int from = oddly(random.nextInt(firms));
                int to = oddly(random.nextInt(firms));
                int number = oddly(1 + upTo(20));
                int good = oddly(random.nextInt(goods));
                int price = oddly(1 + upTo(99));
                int day = oddly(upTo(lastDay));
                int mark = oddly(upTo(2));
                same("sell " + from + " " + to + " " + number + " " + good + " " + price + " " + day + " " + mark,
                    real.sell(from, to, number, good, price, day, mark), model.sell(from, to, number, good, price, day, mark));
            }
        }
    }

    private void ask() {
        // Often the same ones again, since what was found may have been kept where it should not.
        if (upTo(2) == 0) {
            asked = new int[] {oddly(upTo(1)), oddly(2 + upTo(4)), oddly(upTo(pick(0, 2, lastDay, 400)))};
        }
        int way = asked[0];
        int k = asked[1];
        int d = asked[2];
        int firm = oddly(random.nextInt(firms));
        String which = " " + way + " " + k + " " + d + " ";
        switch (upTo(18)) {
            case 0 -> same("rounds" + which, real.rounds(way, k, d), model.rounds(way, k, d));
            case 1 -> {
                int i = oddly(upTo(pick(0, 3, 20)));
                int what = oddly(upTo(10));
                same("round" + which + i + " " + what, real.round(way, k, d, i, what), model.round(way, k, d, i, what));
            }
            case 2 -> askJudge(way);
            case 3 -> same("takes" + which, real.takes(way, k, d), model.takes(way, k, d));
            case 4, 5 -> {
                int good = oddly(random.nextInt(goods));
                same("flow " + firm + " " + good, real.flow(firm, good), model.flow(firm, good));
            }
            case 6 -> {
                int seed = oddly(random.nextInt() & Integer.MAX_VALUE);
                int draws = oddly(1 + upTo(9));
                same("luck" + which + seed + " " + draws, real.luck(way, k, d, seed, draws), model.luck(way, k, d, seed, draws));
            }
            case 7, 8 -> same("signs " + firm + which, real.signs(firm, way, k, d), model.signs(firm, way, k, d));
            case 9 -> {
                int signs = upTo(16);
                int what = oddly(upTo(1));
                same("knew " + signs + which + what, real.knew(signs, way, k, d, what), model.knew(signs, way, k, d, what));
            }
            case 10 -> same("hands", real.hands(), model.hands());
            case 11 -> {
                int mark = oddly(upTo(3));
                same("lacking " + mark, real.lacking(mark), model.lacking(mark));
            }
            case 12 -> askFewest(way, k, d);
            case 13 -> {
                int land = oddly(upTo(2));
                same("burden " + land, real.burden(land), model.burden(land));
            }
            case 14 -> {
                int purse = oddly(upTo(pick(0, 2, 8, 40)));
                int what = oddly(upTo(2));
                same("starve" + which + purse + " " + what, real.starve(way, k, d, purse, what), model.starve(way, k, d, purse, what));
            }
            case 15 -> {
                int what = oddly(upTo(8));
                same("count " + what, real.count(what), model.count(what));
            }
            case 16 -> {
                int what = oddly(upTo(8));
                same("firm " + firm + " " + what, real.firm(firm, what), model.firm(firm, what));
            }
            case 17 -> sameLook(oddly(upTo(12)), oddly(upTo(8)));
            default -> {
                int what = oddly(upTo(3));
                int letters = oddly(SaleRoundsModel.packed(NAMES[random.nextInt(NAMES.length)]));
                same("named " + what + " " + letters, real.named(what, letters), model.named(what, letters));
            }
        }
    }

    /** Often a round that is there, since a drawn row seldom is one. */
    private void askJudge(int way) {
        int n = oddly(2 + upTo(4));
        long row = random.nextLong() & (upTo(1) == 0 ? 0x3c73c71c71c7L : -1L);
        int found = model.rounds(1, 6, 400);
        if (found > 0 && upTo(3) > 0) {
            int i = random.nextInt(found);
            n = model.round(1, 6, 400, i, 0);
            row = random.nextLong() << 6 * n;
            for (int j = 0; j < n; j++) {
                row |= (long) model.round(1, 6, 400, i, 4 + j) << 6 * j;
            }
        }
        same("judge " + way + " " + n + " " + row, real.judge(way, n, row), model.judge(way, n, row));
    }

    private void askFewest(int way, int k, int d) {
        long all = model.takes(way, k, d);
        long t = upTo(9) == 0 ? -1 : all <= 0 || upTo(1) == 0 ? 0 : random.nextLong() >>> 1;
        if (t > 0) {
            t %= all + 1;
        }
        same("fewest " + way + " " + k + " " + d + " " + t, real.fewest(way, k, d, t), model.fewest(way, k, d, t));
    }

    private void run() {
        firms = 2;
        goods = 1;
        lastDay = 5;
        while (calls < 440) {
            if (upTo(60) == 0 || calls == 0) {
                String text = text();
                tell(upTo(3) == 0 ? spoiled(text) : text);
            } else if (upTo(3) == 0) {
                change();
            } else {
                ask();
            }
        }
    }

    public static void main(String[] args) {
        int runs = args.length > 0 ? Integer.parseInt(args[0]) : 600;
        long base = args.length > 1 ? Long.parseLong(args[1]) : 20260101L;
        long calls = 0;
        long spent = 0;
        long faults = 0;
        long books = 0;
        int wrong = 0;
        for (int i = 0; i < runs && wrong < 3; i++) {
            SaleRoundsFuzzTest test = new SaleRoundsFuzzTest(base + i);
            try {
                test.run();
            } catch (RuntimeException e) {
                wrong++;
                System.out.println("seed " + (base + i) + ": " + e);
                if (!(e instanceof IllegalStateException)) {
                    e.printStackTrace(System.out);
                }
            }
            calls += test.calls;
            spent += test.spent;
            faults += test.faults;
            books += test.books;
        }
        System.out.println(runs + " runs, " + calls + " calls, " + spent + " spent, " + books + " books, " + faults + " faults, " + wrong + " wrong");
        if (wrong != 0) {
            System.exit(1);
        }
    }
}
