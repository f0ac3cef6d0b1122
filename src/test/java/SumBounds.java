/** Taxes, sums and what is missing (==== 2.), and the promises about single things: 6 to 10 and 26. */
final class SumBounds extends SaleRoundsChecks {
    private static final int LEAST = Integer.MIN_VALUE;
    private static final int MOST = Integer.MAX_VALUE;
    private static final String HEAD = "land a 1;land b 40;good x;good y;firm p a 3;firm q a 5 hand 7;firm r b 0 room 9;firm s b 400 room 9 hand 8;";

    static void run() {
        taxes();
        owing();
        missing();
        looking();
        firmAnswers();
        selling();
        refusedSales();
        fortySales();
        takingBack();
        paying();
        counting();
    }

    private static void taxes() {
        says("TAX of a SALE, in hundredths: NUMBER times PRICE times TAX of the LAND, if both FIRMS are in one LAND in which the RULE isn't (5.); else 0.");
        SaleRounds x = made("land a 1;land b 40;land c 0;good x;firm a a 0;firm b a 0;firm c b 0;firm d b 0;firm e c 0;firm f c 0;");
        sold(x, 0, 1, 1, 1, 0);
        sold(x, 2, 3, 999, 999, 0);
        sold(x, 4, 5, 999, 999, 0);
        sold(x, 1, 2, 999, 999, 0);
        sold(x, 2, 1, 999, 999, 0);
        sold(x, 0, 1, 2, 3, 0);
        int[][] due = {{1, 39920040, 0, 0, 0, 6}, {0, 39920040, 0, 0, 0, 0}, {1, 0, 0, 0, 0, 6}, {0, 0, 0, 0, 0, 0}, {1, 39920040, 0, 0, 0, 6}};
        for (int lands = 0; lands < 5; lands++) {
            x.rule(lands);
            for (int sale = 0; sale < 6; sale++) {
                due("tax of " + sale + " with the rule in " + lands, x.look(sale, 7), due[lands][sale]);
            }
        }
    }

    private static void owing() {
        says("OWES of a FIRM: TAX of all its SALES less TAX of all that it bought.");
        SaleRounds x = made("land a 10;land b 20;good x;firm p a 0;firm q a 0;firm r b 0;firm s a 0;");
        due("none as yet", x.firm(0, 4), 0);
        sold(x, 0, 1, 2, 3, 0);
        sold(x, 1, 0, 1, 4, 0);
        sold(x, 0, 2, 9, 9, 0);
        sold(x, 2, 0, 9, 9, 0);
        due("p", x.firm(0, 4), 60 - 40);
        due("q", x.firm(1, 4), 40 - 60);
        due("over a border", x.firm(2, 4), 0);
        due("without any", x.firm(3, 4), 0);
        x.rule(1);
        due("p with the rule", x.firm(0, 4), 0);
        due("q with the rule", x.firm(1, 4), 0);
        x.rule(0);
        due("p without it", x.firm(0, 4), 20);
        x = made("land a 40;good x;firm p a 0;firm q a 0;");
        for (int i = 0; i < 40; i++) {
            sold(x, 0, 1, 999, 999, 0);
        }
        due("the most", x.firm(0, 4), 1596801600);
        due("the least", x.firm(1, 4), -1596801600);
        due("the most is missing, once paid all", x.pay(0, 999999) == 999999 ? x.firm(0, 6) : -9, 1);
    }

    private static void missing() {
        says("GAP: OWES less 100 PAID; it is MISSING if that is above 0.");
        SaleRounds x = made("land a 1;good x;firm p a 0;firm q a 0;");
        due("owes nothing", x.firm(0, 6), 0);
        sold(x, 0, 1, 1, 1, 0);
        due("a gap of 1", x.firm(0, 6), 1);
        due("a gap of -1", x.firm(1, 6), 0);
        x.undo();
        sold(x, 0, 1, 99, 1, 0);
        x.pay(0, 1);
        due("99 less 100", x.firm(0, 6), 0);
        sold(x, 0, 1, 1, 1, 0);
        due("100 less 100", x.firm(0, 6), 0);
        due("none is", x.count(7), 0);
        sold(x, 0, 1, 1, 1, 0);
        due("101 less 100", x.firm(0, 6), 1);
        due("one is", x.count(7), 1);
        x.rule(1);
        due("not with the rule", x.firm(0, 6), 0);
        due("none is with the rule", x.count(7), 0);
        x.rule(0);
        x.pay(0, 1);
        due("paid", x.firm(0, 6), 0);
        x = made("land a 1;good x;firm p a 0;firm q a 0;sale p q 999 x 101 day 0;paid p 1008;");
        due("100899 less 100800", x.firm(0, 6), 1);
        x.pay(0, 1);
        due("100899 less 100900", x.firm(0, 6), 0);
    }

    private static SaleRounds twoSales() {
        return made(HEAD + "sale p q 2 x 3 day 5 mark 6;sale s r 999 y 999 day 400;");
    }

    private static void looking() {
        says("Of a SALE, what 0, 1: from, to, 2 NUMBER, 3 GOOD, 4 PRICE, 5 DAY, 6 MARK, 7 TAX.");
        SaleRounds x = twoSales();
        int[][] due = {{0, 1, 2, 0, 3, 5, 6, 6}, {3, 2, 999, 1, 999, 400, 0, 39920040}};
        for (int sale = 0; sale < 2; sale++) {
            for (int what = 0; what < 8; what++) {
                due("look " + sale + " " + what, x.look(sale, what), due[sale][what]);
            }
        }

        says("IndexOutOfBoundsException: no such SALE.");
        for (int sale : new int[] {-1, 2, 3, 30, 39, 40, 41, MOST, LEAST}) {
            due("look " + sale, thrown(x, sale, 0), 1);
            due("look " + sale + " of a wrong what", thrown(x, sale, 8), 1);
        }
        sold(x, 0, 1, 1, 1, 5);
        due("told by sell", thrown(x, 2, 7), 0);
        x.undo();
        due("taken back", thrown(x, 2, 7), 1);
        due("of an empty book", thrown(made(""), 0, 0), 1);

        says("NoSuchElementException: no such what.");
        for (int what : new int[] {8, 9, -1, MOST, LEAST}) {
            due("look 0 " + what, thrown(x, 0, what), 2);
            due("look 1 " + what, thrown(x, 1, what), 2);
        }
    }

    private static void firmAnswers() {
        says("Of a FIRM, what 0 LAND, 1 since, 2 HAND, 3 ROOM, 4 OWES, 5 100 PAID, 6 whether it is MISSING (1, 0), 7 the least FIRM under its hand.");
        SaleRounds x = twoSales();
        x.pay(3, 12);
        int[][] due = {{0, 3, 0, 0, 6, 0, 1, 0}, {0, 5, 7, 0, -6, 0, 0, 1}, {1, 0, 0, 9, -39920040, 0, 0, 2}, {1, 400, 8, 9, 39920040, 1200, 1, 2}};
        for (int firm = 0; firm < 4; firm++) {
            for (int what = 0; what < 8; what++) {
                due("firm " + firm + " " + what, x.firm(firm, what), due[firm][what]);
            }
        }

        says("Integer.MIN_VALUE: no such ones.");
        for (int firm : new int[] {-1, 4, 12, MOST, LEAST}) {
            due("firm " + firm, x.firm(firm, 0), LEAST);
            due("neither, " + firm, x.firm(firm, 8), LEAST);
        }
        for (int what : new int[] {8, 9, -1, MOST, LEAST}) {
            due("firm 0 " + what, x.firm(0, what), LEAST);
            due("firm 3 " + what, x.firm(3, what), LEAST);
        }
        SaleRounds full = firms(12);
        due("the twelfth", full.firm(11, 7), 11);
        due("a thirteenth", full.firm(12, 7), LEAST);
    }

    private static void selling() {
        says("A SALE more (at most 40 in all; mark 0 without): its number;");
        SaleRounds x = made(HEAD);
        due("the first", x.sell(1, 0, 1, 0, 1, 5, 0), 0);
        due("the least", x.sell(2, 0, 1, 0, 1, 3, 1), 1);
        due("the most", x.sell(3, 1, 999, 1, 999, 400, 99), 2);
        int[][] due = {{1, 0, 1, 0, 1, 5, 0, 1}, {2, 0, 1, 0, 1, 3, 1, 0}, {3, 1, 999, 1, 999, 400, 99, 0}};
        for (int sale = 0; sale < 3; sale++) {
            for (int what = 0; what < 8; what++) {
                due("look " + sale + " " + what, x.look(sale, what), due[sale][what]);
            }
        }
        x.stop(15);
        x.rule(3);
        due("by those stopped, under the rule", x.sell(0, 1, 1, 0, 1, 5, 0), 3);
        x = made("land a 1;good x;firm p a 0;firm q a 0;");
        due("day 0", x.sell(0, 1, 1, 0, 1, 0, 0), 0);
    }

    private static void refusedSales() {
        says("NONE: it can't be (as in a BOOK).");
        SaleRounds x = made(HEAD + "sale p q 1 x 1 day 5;");
        x.sell(0, 1, 1, 0, 1, 5, 0);
        int[][] bad = {{-1, 1, 1, 0, 1, 9, 0}, {4, 1, 1, 0, 1, 9, 0}, {MOST, 1, 1, 0, 1, 9, 0}, {LEAST, 1, 1, 0, 1, 9, 0},
            {0, -1, 1, 0, 1, 9, 0}, {0, 4, 1, 0, 1, 9, 0}, {0, MOST, 1, 0, 1, 9, 0}, {0, LEAST, 1, 0, 1, 9, 0},
            {0, 0, 1, 0, 1, 9, 0}, {3, 3, 1, 0, 1, 400, 0}, {-1, -1, 1, 0, 1, 9, 0}, {4, 4, 1, 0, 1, 9, 0},
            {0, 1, 0, 0, 1, 9, 0}, {0, 1, -1, 0, 1, 9, 0}, {0, 1, 1000, 0, 1, 9, 0}, {0, 1, MOST, 0, 1, 9, 0}, {0, 1, LEAST, 0, 1, 9, 0},
            {0, 1, 1, -1, 1, 9, 0}, {0, 1, 1, 2, 1, 9, 0}, {0, 1, 1, MOST, 1, 9, 0}, {0, 1, 1, LEAST, 1, 9, 0},
            {0, 1, 1, 0, 0, 9, 0}, {0, 1, 1, 0, -1, 9, 0}, {0, 1, 1, 0, 1000, 9, 0}, {0, 1, 1, 0, MOST, 9, 0}, {0, 1, 1, 0, LEAST, 9, 0},
            {0, 1, 1, 0, 1, 401, 0}, {0, 1, 1, 0, 1, MOST, 0}, {0, 1, 1, 0, 1, LEAST, 0}, {0, 1, 1, 0, 1, 4, 0}, {1, 0, 1, 0, 1, 4, 0},
            {2, 0, 1, 0, 1, 2, 0}, {0, 2, 1, 0, 1, 2, 0}, {3, 0, 1, 0, 1, 399, 0}, {0, 3, 1, 0, 1, 399, 0}, {0, 1, 1, 0, 1, -1, 0},
            {0, 1, 1, 0, 1, 9, -1}, {0, 1, 1, 0, 1, 9, 100}, {0, 1, 1, 0, 1, 9, MOST}, {0, 1, 1, 0, 1, 9, LEAST}};
        String before = shown(x);
        for (int[] b : bad) {
            due("sell " + java.util.Arrays.toString(b), x.sell(b[0], b[1], b[2], b[3], b[4], b[5], b[6]), -1);
        }
        due("all as it was", shown(x), before);
        due("the next one's number", x.sell(0, 1, 1, 0, 1, 5, 0), 2);
        x = made("land a 1;good x;firm p a 0;firm q a 0;");
        due("a day below 0 with firms since 0", x.sell(0, 1, 1, 0, 1, -1, 0), -1);
        due("without goods", made("land a 1;firm p a 0;firm q a 0;").sell(0, 1, 1, 0, 1, 0, 0), -1);
    }

    private static void fortySales() {
        says("A SALE more (at most 40 in all;");
        SaleRounds x = made("land a 1;good x;firm p a 0;firm q a 0;");
        for (int i = 0; i < 40; i++) {
            due("sell " + i, sold(x, 0, 1, i + 1, 1, 0), i);
        }
        due("a 41st", sold(x, 0, 1, 1, 1, 0), -1);
        due("forty", x.count(3), 40);
        due("the last one", x.look(39, 2), 40);
        due("no 41st", thrown(x, 40, 0), 1);
        due("one back", x.undo(), 39);
        due("one more", sold(x, 1, 0, 7, 1, 0), 39);
        due("it is another", x.look(39, 2), 7);
        due("a 41st again", sold(x, 0, 1, 1, 1, 0), -1);
        StringBuilder book = new StringBuilder("land a 1;good x;firm p a 0;firm q a 0;");
        for (int i = 0; i < 30; i++) {
            book.append("sale p q 1 x 1 day 0;");
        }
        x = made(book.toString());
        for (int i = 30; i < 40; i++) {
            due("behind thirty of the book", sold(x, 0, 1, 1, 1, 0), i);
        }
        due("a 41st behind the book's", sold(x, 0, 1, 1, 1, 0), -1);
        due("told by sell", x.count(4), 10);
    }

    private static void takingBack() {
        says("The latest SALE told by sell() is taken back: how many of those there are; NONE: none.");
        SaleRounds x = made(HEAD + "sale p q 1 x 1 day 5;");
        due("none as yet", x.undo(), -1);
        due("the book's stays", x.count(3), 1);
        sold(x, 0, 1, 11, 1, 5);
        sold(x, 0, 1, 12, 1, 5);
        sold(x, 0, 1, 0, 1, 5);
        due("the latest goes, a refused one is none", x.undo(), 1);
        due("sales", x.count(3), 2);
        due("the first stays", x.look(1, 2), 11);
        due("no more is owed for it", x.firm(0, 4), 12);
        sold(x, 1, 0, 13, 1, 5);
        due("told again", x.count(4), 2);
        due("back", x.undo(), 1);
        due("back again", x.undo(), 0);
        String before = shown(x);
        due("none", x.undo(), -1);
        due("none again", x.undo(), -1);
        due("all as it was", shown(x), before);
        sold(x, 0, 1, 1, 1, 5);
        tell(x, HEAD);
        due("none behind a new book", x.undo(), -1);
        sold(x, 0, 1, 1, 1, 5);
        tell(x, "!");
        due("one behind a faulty book", x.undo(), 0);
    }

    private static void paying() {
        says("A FIRM has PAID so much more (0 .. 999999): all it has; NONE: no such ones, above 999999.");
        SaleRounds x = made(HEAD + "paid q 999998;");
        due("nothing", x.pay(0, 0), 0);
        due("something", x.pay(0, 7), 7);
        due("more", x.pay(0, 8), 15);
        due("nothing more", x.pay(0, 0), 15);
        due("100 paid", x.firm(0, 5), 1500);
        due("up to the most", x.pay(0, 999984), 999999);
        due("one above", x.pay(0, 1), -1);
        due("nothing above", x.pay(0, 0), 999999);
        due("all at once", x.pay(2, 999999), 999999);
        due("two above", x.pay(1, 2), -1);
        due("stays", x.firm(1, 5), 99999800);
        due("one to the most", x.pay(1, 1), 999999);
        due("100 paid of the most", x.firm(1, 5), 99999900);
        String before = shown(x);
        for (int sum : new int[] {1000000, -1, MOST, LEAST, -999999}) {
            due("pay " + sum, x.pay(3, sum), -1);
            due("pay more " + sum, x.pay(0, sum), -1);
        }
        for (int firm : new int[] {-1, 4, 12, MOST, LEAST}) {
            due("pay of " + firm, x.pay(firm, 1), -1);
            due("pay nothing of " + firm, x.pay(firm, 0), -1);
        }
        due("all as it was", shown(x), before);
    }

    private static void counting() {
        says("0 LANDS, 1 GOODS, 2 FIRMS, 3 SALES, 4 those told by sell(), 5 STOPPED FIRMS, 6 LANDS with the RULE, 7 MISSING FIRMS.");
        SaleRounds x = made("land a 1;land b 1;land c 1;good x;good y;firm p a 0;firm q a 0;firm r b 0;firm s b 0;firm t c 0;"
            + "sale p q 1 x 1 day 0;sale r s 1 x 1 day 0;");
        sold(x, 0, 1, 1, 1, 0);
        sold(x, 0, 1, 1, 1, 0);
        x.stop(bits(0, 2, 3, 4));
        int[] due = {3, 2, 5, 4, 2, 4, 0, 2};
        for (int what = 0; what < 8; what++) {
            due("count " + what, x.count(what), due[what]);
        }
        x.rule(bits(1, 2));
        due("lands with the rule", x.count(6), 2);
        due("missing then", x.count(7), 1);
        x.stop(0);
        due("none stopped", x.count(5), 0);
        x.undo();
        due("sales then", x.count(3), 3);
        due("told then", x.count(4), 1);

        says("NONE for another what.");
        for (int what : new int[] {8, 9, -1, MOST, LEAST}) {
            due("count " + what, x.count(what), -1);
        }
    }
}
