/** Each promise by hand: ordinary calls, the edges that the document names, wrong inputs. */
public final class SaleRoundsPromisesTest extends SaleRoundsChecks {
    /** Two lands; p and r are missing; one round by kind over all four firms. */
    private static final String RING = "land a 20;land b 10;good x;firm p a 0;firm q a 5 hand 3;firm r b 0 room 7;"
        + "firm s b 0 hand 3 room 7;sale p q 10 x 50 day 6 mark 1;sale q r 8 x 45 day 7 mark 1;"
        + "sale r s 8 x 60 day 7;sale s p 9 x 55 day 9 mark 1;paid p 50;";
    /** Four firms of one land, no sales. */
    private static final String FOUR = "land a 10;good x;good y;firm p a 0;firm q a 0;firm r a 0;firm s a 0;";

    private static void newObject() {
        SaleRounds x = new SaleRounds();
        for (int what = 0; what < 8; what++) {
            due("new count " + what, x.count(what), 0);
        }
        due("new fault", x.fault(0), 0);
        due("new place", x.fault(1), -1);
        due("new tape", x.book(1), -2);
        due("new hands", x.hands(), 0);
        due("new rounds", x.rounds(1, 6, 400), 0);
        due("new luck", x.luck(1, 6, 400, 1, 10), 10);
        due("new undo", x.undo(), -1);
        due("new stop", x.stop(0), 0);
        due("new stop of one", x.stop(1), -1);
        due("new rule", x.rule(0), 0);
        due("new rule in one", x.rule(1), -1);
        due("new sell", x.sell(0, 1, 1, 0, 1, 0, 0), -1);
        due("new pay", x.pay(0, 0), -1);
        due("new firm", x.firm(0, 0), Integer.MIN_VALUE);
        due("new look", thrown(x, 0, 0), 1);
    }

    private static void feedAndBook() {
        SaleRounds x = new SaleRounds();
        for (int i = 1; i <= 40; i++) {
            due("feed " + i, x.feed(0x676f6f64, 0x20612020, 0x20202020, 0x20202020, 0x2020203b), 20 * i);
            if (i == 40) {
                due("feed beyond", x.feed(0, 0, 0, 0, 0), -1);
            }
        }
        due("book of 801", x.book(801), -2);
        due("book of -1", x.book(-1), -2);
        due("book of 20", x.book(20), 1);
        due("tape is empty", x.book(1), -2);
        due("named", x.named(1, packed("a")), 0);
        due("feed anew", x.feed(0, 0, 0, 0, 0), 20);
        due("book of zeros", x.book(3), -1);
        due("tape is empty with a fault", x.feed(0, 0, 0, 0, 0), 20);
        due("all else stays", x.count(1), 1);
        due("fault stays with -2: " + x.book(21), x.fault(0), 1);
        due("book of no byte", x.book(0), 0);
        due("no goods then", x.count(1), 0);
        due("no fault then", x.fault(0), 0);
        due("fault of another", x.fault(-1), -1);

        x = made(RING);
        x.stop(3);
        x.rule(1);
        x.sell(0, 1, 1, 0, 1, 9, 0);
        due("faulty one", tell(x, "land a 1;;"), -1);
        due("stopped stay", x.count(5), 2);
        due("rule stays", x.count(6), 1);
        due("sold stays", x.count(4), 1);
        due("good one", tell(x, RING), 12);
        due("none stopped", x.count(5), 0);
        due("no rule", x.count(6), 0);
        due("none sold", x.count(4), 0);
        due("nothing to undo", x.undo(), -1);
        due("paid anew", x.firm(0, 5), 5000);
        due("blanks are nothing", tell(x, " \n land\na\n1 ;\n "), 1);
        due("tokens need no blanks", tell(x, "land a1;good a;firm a a0hand2room3;firm b a0;sale a b1a1day0mark9;paid a0;"), 6);
        due("zeros ahead", tell(x, "land a 000000000000000000040;"), 1);
    }

    private static void faults() {
        String head = "land a 1;good x;firm p a 3;firm q a 5;";
        int h = head.length();
        faulty("Land a 1;", 1, 0);
        faulty("land a 1;\t", 1, 9);
        faulty("land a -1;", 1, 7);
        faulty("land 1 a;", 1, 5);
        faulty("land a b;", 1, 7);
        faulty("land a 1", 1, 8);
        faulty("land a 1  ", 1, 10);
        faulty("land a 1 2;", 1, 9);
        faulty("lands a 1;", 1, 0);
        faulty("land paid 1;", 1, 5);
        faulty("good abcdefg;", 1, 5);
        faulty("good " + (char) 233 + ";", 1, 5);
        faulty("land a 41;", 2, 7);
        faulty("land a 99999999999999999999999;", 2, 7);
        faulty("land a 1;land b 1;land c 1;land d 1;land e 1;land !", 2, 45);
        faulty("good a;good b;good c;good d;good;", 2, 28);
        faulty("good a;good b;good a;", 3, 19);
        faulty("land a 1;firm p b 0;", 4, 16);
        faulty("land a 1;firm p a 401;", 2, 18);
        faulty("land a 1;firm p a 0 hand 100;", 2, 25);
        faulty("land a 1;firm p a 0 room 0;", 2, 25);
        faulty("land a 1;firm p a 0 room 1 hand 1 room 1;", 3, 34);
        faulty("land a 1;firm p a 0 room 1 room", 3, 27);
        faulty("land a 1;firm p a 0 day 1;", 1, 20);
        faulty("land a 1;firm p a 0;firm p", 3, 25);
        StringBuilder firms = new StringBuilder("land a 1;");
        for (int i = 0; i < 12; i++) {
            firms.append("firm ").append((char) ('a' + i)).append(" a 0;");
        }
        faulty(firms + "firm z a 0;", 2, firms.length());
        faulty(head + "sale z q 1 x 1 day 5;", 4, h + 5);
        faulty(head + "sale p p 1 x 1 day 5;", 3, h + 7);
        faulty(head + "sale p z 1 x 1 day 5;", 4, h + 7);
        faulty(head + "sale p mark 1 x 1 day 5;", 1, h + 7);
        faulty(head + "sale p q 0 x 1 day 5;", 2, h + 9);
        faulty(head + "sale p q 1000 x 1 day 5;", 2, h + 9);
        faulty(head + "sale p q 1 p 1 day 5;", 4, h + 11);
        faulty(head + "sale p q 1 x 0 day 5;", 2, h + 13);
        faulty(head + "sale p q 1 x 1000 day 5;", 2, h + 13);
        faulty(head + "sale p q 1 x 1 5;", 1, h + 15);
        faulty(head + "sale p q 1 x 1 day 401;", 2, h + 19);
        faulty(head + "sale p q 1 x 1 day 4;", 5, h + 19);
        faulty(head + "sale q p 1 x 1 day 4 mark 0;", 5, h + 19);
        faulty(head + "sale q p 1 x 1 day 0;", 5, h + 19);
        faulty(head + "sale p q 1 x 1 day 5 mark 100;", 2, h + 26);
        faulty(head + "sale p q 1 x 1 day 5 mark 1 mark 1;", 1, h + 28);
        faulty(head + "paid z 1;", 4, h + 5);
        faulty(head + "paid p 0;paid p 0;", 3, h + 14);
        faulty(head + "paid p 1000000;", 2, h + 7);
        StringBuilder sales = new StringBuilder(head);
        for (int i = 0; i < 30; i++) {
            sales.append("sale p q 1 x 1 day 5;");
        }
        due("thirty sales", made(sales.toString()).count(3), 30);
        faulty(sales + "sale", 2, sales.length());
    }

    private static void names() {
        SaleRounds x = made("land abcdef 1;land abcde 2;good abcdef;firm z abcde 7 room 99 hand 1;firm abcdef abcdef 400;");
        due("land of six", x.named(0, packed("abcdef")), 0);
        due("land of five", x.named(0, packed("abcde")), 1);
        due("good of six", x.named(1, packed("abcdef")), 0);
        due("firm of six", x.named(2, packed("abcdef")), 1);
        due("firm z", x.named(2, 26 << 25), 0);
        due("no such firm", x.named(2, 26), -1);
        due("no letters", x.named(2, 0), -1);
        due("other bits", x.named(2, 26 << 25 | 1 << 31), -1);
        due("no such kind", x.named(3, 26 << 25), -1);
        due("its land", x.firm(0, 0), 1);
        due("its since", x.firm(0, 1), 7);
        due("its hand", x.firm(0, 2), 1);
        due("its room", x.firm(0, 3), 99);
        due("without hand", x.firm(1, 2), 0);
        due("firm -1", x.firm(-1, 0), Integer.MIN_VALUE);
        due("firm 2", x.firm(2, 0), Integer.MIN_VALUE);
        due("firm what -1", x.firm(0, -1), Integer.MIN_VALUE);
    }

    private static void sums() {
        SaleRounds x = made(RING);
        int[] third = {2, 3, 8, 0, 60, 7, 0, 4800};
        for (int what = 0; what < 8; what++) {
            due("look 2 " + what, x.look(2, what), third[what]);
        }
        due("look 4", thrown(x, 4, 0), 1);
        due("look -1", thrown(x, -1, 0), 1);
        due("look what 8", thrown(x, 0, 8), 2);
        due("look what -1", thrown(x, 0, -1), 2);
        due("neither", thrown(x, 4, 8), 1);
        due("over a border", x.look(1, 7), 0);
        due("owes of p", x.firm(0, 4), 10000);
        due("owes of q", x.firm(1, 4), -10000);
        due("missing", x.count(7), 2);
        due("pay to the edge", x.pay(0, 50), 100);
        due("no gap, not missing", x.firm(0, 6), 0);
        due("pay nothing", x.pay(2, 0), 0);
        due("pay below nothing", x.pay(2, -1), -1);
        due("pay of none", x.pay(4, 1), -1);
        due("pay of -1", x.pay(-1, 1), -1);
        due("pay too much", x.pay(0, 999900), -1);
        due("pay all", x.pay(0, 999899), 999999);
        due("100 paid", x.firm(0, 5), 99999900);
        x = made("land a 40;good x;firm p a 0;firm q a 0;");
        for (int i = 0; i < 40; i++) {
            due("sell " + i, x.sell(0, 1, 999, 0, 999, 0, 0), i);
        }
        due("most owed", x.firm(0, 4), 1596801600);
        due("least owed", x.firm(1, 4), -1596801600);
        due("sell beyond 40", x.sell(0, 1, 1, 0, 1, 0, 0), -1);
    }

    private static void sales() {
        SaleRounds x = made("land a 1;good x;firm p a 3;firm q a 5;sale p q 1 x 1 day 5;");
        due("sell", x.sell(0, 1, 999, 0, 999, 400, 99), 1);
        due("sell at the edge", x.sell(1, 0, 1, 0, 1, 5, 0), 2);
        int[][] bad = {{-1, 1, 1, 0, 1, 9, 0}, {2, 1, 1, 0, 1, 9, 0}, {0, 2, 1, 0, 1, 9, 0}, {0, -1, 1, 0, 1, 9, 0}, {0, 0, 1, 0, 1, 9, 0},
            {0, 1, 0, 0, 1, 9, 0}, {0, 1, 1000, 0, 1, 9, 0}, {0, 1, 1, 1, 1, 9, 0}, {0, 1, 1, -1, 1, 9, 0}, {0, 1, 1, 0, 0, 9, 0},
            {0, 1, 1, 0, 1000, 9, 0}, {0, 1, 1, 0, 1, -1, 0}, {0, 1, 1, 0, 1, 401, 0}, {0, 1, 1, 0, 1, 4, 0}, {1, 0, 1, 0, 1, 4, 0},
            {0, 1, 1, 0, 1, 9, -1}, {0, 1, 1, 0, 1, 9, 100}};
        for (int[] b : bad) {
            due("sell " + java.util.Arrays.toString(b), x.sell(b[0], b[1], b[2], b[3], b[4], b[5], b[6]), -1);
        }
        due("sales", x.count(3), 3);
        due("told", x.count(4), 2);
        due("undo", x.undo(), 1);
        due("latest is gone", thrown(x, 2, 0), 1);
        due("the other stays", x.look(1, 6), 99);
        due("undo again", x.undo(), 0);
        due("undo no more", x.undo(), -1);
        due("the book's stays", x.count(3), 1);
        due("count of another", x.count(8), -1);
        due("count of -1", x.count(-1), -1);
    }

    private static void rounds() {
        SaleRounds x = made(FOUR);
        x.sell(0, 1, 5, 0, 10, 3, 1);
        x.sell(1, 0, 7, 0, 30, 3, 1);
        due("a row from each firm on one day", x.rounds(0, 2, 0), 2);
        due("first row, first", x.round(0, 2, 0, 0, 4), 0);
        due("first row, second", x.round(0, 2, 0, 0, 5), 1);
        due("second row, first", x.round(0, 2, 0, 1, 4), 1);
        due("carries", x.round(0, 2, 0, 1, 1), 5);
        due("takes of q alone", x.round(0, 2, 0, 0, 2), 5 * (30 - 10) * 10);
        due("takes of both", x.takes(0, 2, 0), 2000);
        x.undo();
        due("none once one is taken back", x.rounds(0, 2, 0), 0);
        x.sell(1, 0, 7, 0, 30, 4, 1);
        due("days never fall", x.rounds(0, 6, 400), 1);
        due("days apart", x.rounds(0, 6, 0), 0);
        x.undo();
        x.sell(1, 0, 7, 0, 30, 4, 2);
        due("marks differ", x.rounds(0, 6, 400), 0);
        due("kind is one", x.rounds(1, 6, 400), 1);
        x.undo();
        x.sell(1, 0, 7, 1, 30, 4, 1);
        due("goods differ", x.rounds(1, 6, 400), 0);
        x.sell(1, 2, 4, 0, 10, 3, 0);
        x.sell(2, 1, 4, 0, 10, 3, 0);
        x.sell(2, 0, 4, 0, 10, 5, 0);
        due("rows by lesser sales", x.rounds(1, 6, 400), 3);
        due("three sales", x.round(1, 6, 400, 0, 0), 3);
        due("its firms", x.round(1, 6, 400, 0, 3), 7);
        due("its last", x.round(1, 6, 400, 0, 6), 4);
        due("beyond its last", x.round(1, 6, 400, 0, 7), -1);
        due("the next", x.round(1, 6, 400, 1, 4), 2);
        due("k cuts", x.rounds(1, 2, 400), 2);
        due("no such round", x.round(1, 6, 400, 3, 0), -1);
        due("round -1", x.round(1, 6, 400, -1, 0), -1);
        due("what -1", x.round(1, 6, 400, 0, -1), -1);
        due("round way", x.round(2, 6, 400, 0, 0), -1);
        due("stop q", x.stop(2), 1);
        due("none through q", x.rounds(1, 6, 400), 0);
        int[][] bad = {{-1, 2, 0}, {2, 2, 0}, {0, 1, 0}, {0, 7, 0}, {0, 2, -1}, {0, 2, 401}};
        for (int[] b : bad) {
            due("rounds bad", x.rounds(b[0], b[1], b[2]), -1);
            due("takes bad", x.takes(b[0], b[1], b[2]), -1);
            due("round bad", x.round(b[0], b[1], b[2], 0, 0), -1);
            due("luck bad", x.luck(b[0], b[1], b[2], 0, 1), -1);
            due("signs bad", x.signs(0, b[0], b[1], b[2]), -1);
            due("knew bad", x.knew(1, b[0], b[1], b[2], 0), -1);
            due("fewest bad", x.fewest(b[0], b[1], b[2], 0), -1);
            due("starve bad", x.starve(b[0], b[1], b[2], 0, 0), -1);
        }
    }

    private static void spent() {
        SaleRounds x = made(FOUR);
        for (int i = 0; i < 10; i++) {
            x.sell(0, 1, 1, 0, 1, 0, 1);
        }
        for (int i = 0; i < 10; i++) {
            x.sell(1, 0, 1, 0, 2, 0, 1);
        }
        due("two hundred", x.rounds(0, 2, 0), 200);
        due("the last one", x.round(0, 2, 0, 199, 4), 19);
        due("its second", x.round(0, 2, 0, 199, 5), 9);
        due("takes of 200", x.takes(0, 2, 0), 200 * 10);
        due("fewest of 200", x.fewest(0, 2, 0, 1999), 1);
        x.sell(2, 3, 1, 0, 1, 0, 1);
        due("still", x.rounds(1, 2, 0), 200);
        x.sell(3, 2, 1, 0, 1, 1, 1);
        due("spent", x.rounds(1, 2, 1), -2);
        due("round", x.round(1, 2, 1, 0, 0), -2);
        due("takes", x.takes(1, 2, 1), -2);
        due("luck", x.luck(1, 2, 1, 0, 1), -2);
        due("signs", x.signs(0, 1, 2, 1), -2);
        due("knew", x.knew(1, 1, 2, 1, 0), -2);
        due("fewest", x.fewest(1, 2, 1, 0), -2);
        due("starve", x.starve(1, 2, 1, 0, 0), -2);
        due("wrong ones stay NONE, luck", x.luck(1, 2, 1, -1, 1), -1);
        due("wrong ones stay NONE, signs", x.signs(4, 1, 2, 1), -1);
        due("wrong ones stay NONE, knew", x.knew(16, 1, 2, 1, 0), -1);
        due("wrong ones stay NONE, fewest", x.fewest(1, 2, 1, -1), -1);
        due("wrong ones stay NONE, starve", x.starve(1, 2, 1, -1, 0), -1);
        due("judge is never spent", x.judge(1, 2, row(0, 10)), 1);
        due("without those stopped", x.stop(1), 1);
        due("not spent then", x.rounds(1, 2, 1), 1);
    }

    private static void judges() {
        SaleRounds x = made(RING);
        due("a round", x.judge(1, 4, row(0, 1, 2, 3)), 1);
        due("bits beyond", x.judge(1, 4, row(0, 1, 2, 3, 63) | 1L << 63), 1);
        due("days fall", x.judge(1, 4, row(1, 2, 3, 0)), 0);
        due("not home", x.judge(1, 3, row(0, 1, 2)), 0);
        due("marks", x.judge(0, 4, row(0, 1, 2, 3)), 0);
        due("one twice", x.judge(1, 2, row(0, 0)), 0);
        due("n 1", x.judge(1, 1, 0), -1);
        due("n 7", x.judge(1, 7, 0), -1);
        due("way 2", x.judge(2, 2, 0), -1);
        due("way -1", x.judge(-1, 2, 0), -1);
        due("no such sale", x.judge(1, 2, row(0, 4)), -1);
        due("all bits", x.judge(1, 6, -1L), -1);
        x = made(FOUR);
        for (int i = 0; i < 4; i++) {
            x.sell(i, (i + 1) % 4, 1, 1, 1, 0, 0);
        }
        x.sell(3, 0, 1, 1, 1, 400, 0);
        due("unmarked ones are in none by marks", x.judge(0, 4, row(0, 1, 2, 3)), 0);
        due("from another firm on the same day", x.judge(1, 4, row(2, 3, 0, 1)), 1);
        due("however many days", x.judge(1, 4, row(0, 1, 2, 4)), 1);
    }

    private static void flows() {
        SaleRounds x = made(FOUR);
        due("no sales", x.flow(0, 0), 0);
        x.sell(0, 1, 10, 0, 1, 5, 0);
        x.sell(1, 2, 6, 0, 1, 5, 0);
        x.sell(2, 0, 9, 0, 1, 5, 0);
        due("one day, whatever order", x.flow(0, 0), 6);
        due("from another one", x.flow(2, 0), 6);
        x.sell(1, 3, 3, 0, 1, 7, 0);
        x.sell(3, 0, 2, 0, 1, 7, 0);
        x.sell(3, 0, 9, 0, 1, 6, 0);
        due("not ahead of its day", x.flow(0, 0), 8);
        due("another good", x.flow(0, 1), 0);
        due("stopped one", x.stop(4), 1);
        due("around it", x.flow(0, 0), 2);
        due("itself", x.stop(1), 1);
        due("none of its own", x.flow(0, 0), 0);
        due("no such firm", x.flow(4, 0), -1);
        due("firm -1", x.flow(-1, 0), -1);
        due("no such good", x.flow(0, 2), -1);
        due("good -1", x.flow(0, -1), -1);
        x = made(FOUR);
        x.sell(0, 1, 5, 0, 1, 0, 0);
        x.sell(1, 0, 5, 0, 1, 1, 0);
        x.sell(0, 2, 5, 0, 1, 2, 0);
        x.sell(2, 1, 5, 0, 1, 3, 0);
        due("home by another way", x.flow(1, 0), 5);
        due("only what is early enough", x.flow(0, 0), 5);
        x = made(FOUR);
        x.sell(0, 1, 1, 0, 1, 0, 0);
        x.sell(0, 2, 1, 0, 1, 0, 0);
        x.sell(1, 2, 1, 0, 1, 1, 0);
        x.sell(2, 0, 1, 0, 1, 1, 0);
        x.sell(1, 0, 1, 0, 1, 2, 0);
        due("a way that must be taken back", x.flow(0, 0), 2);
        x = made("land a 1;good x;firm p a 0;firm q a 0;firm r a 0;firm s a 0;firm t a 0;firm u a 0;"
            + "sale p q 1 x 1 day 0;sale p r 1 x 1 day 0;sale q s 1 x 1 day 1;sale s p 1 x 1 day 2;sale r s 1 x 1 day 1;"
            + "sale q t 1 x 1 day 1;sale t u 1 x 1 day 1;sale u p 1 x 1 day 1;");
        due("a way that must be taken back by two sales", x.flow(0, 0), 2);
    }

    private static void luck() {
        SaleRounds x = made(RING);
        due("seed 0", x.luck(1, 4, 10, 0, 1), 1);
        due("seed 7", x.luck(1, 4, 10, 7, 1), 0);
        due("sales stay as they are", x.look(0, 1), 1);
        due("rounds stay", x.rounds(1, 4, 10), 1);
        due("highest seed", x.luck(1, 4, 10, Integer.MAX_VALUE, 10) >= 0 ? 1 : 0, 1);
        due("none to reach", x.luck(0, 2, 0, 5, 10), 10);
        due("no draw", x.luck(1, 4, 10, 0, 0), -1);
        due("eleven draws", x.luck(1, 4, 10, 0, 11), -1);
        due("seed below 0", x.luck(1, 4, 10, -1, 1), -1);
    }

    private static void knowing() {
        SaleRounds x = made(FOUR);
        x.sell(0, 1, 1, 0, 50, 5, 0);
        x.sell(1, 2, 1, 0, 49, 4, 0);
        due("sold ahead of buying", x.signs(1, 1, 2, 0), 2);
        x.sell(1, 2, 1, 0, 50, 5, 0);
        due("sold at the same", x.signs(1, 1, 2, 0), 2);
        x.sell(1, 2, 1, 0, 49, 5, 0);
        due("sold at less on the same day", x.signs(1, 1, 2, 0) & 1, 1);
        x.undo();
        x.sell(1, 2, 1, 1, 49, 5, 0);
        due("another good", x.signs(1, 1, 2, 0) & 1, 0);
        due("bought nothing", x.signs(0, 1, 2, 0), 0);

        x = made("land a 10;land b 0;good x;firm m a 0;firm n a 0;firm o b 0;firm p b 0;firm q b 0;"
            + "sale m n 1 x 9 day 0;sale n o 1 x 9 day 0;sale o p 1 x 9 day 0;sale p q 1 x 9 day 0;");
        due("only m is missing", x.count(7), 1);
        due("from a missing one", x.signs(1, 1, 2, 0), 2);
        due("from one that bought from such", x.signs(2, 1, 2, 0), 2);
        due("from farther off", x.signs(3, 1, 2, 0), 0);
        x.sell(4, 2, 1, 0, 9, 0, 0);
        due("not all that it bought", x.signs(2, 1, 2, 0), 0);
        due("must", x.knew(2, 1, 2, 0, 0), 2);
        due("may", x.knew(15, 1, 2, 0, 1), 2);
        due("signs 0", x.knew(0, 1, 2, 0, 0), -1);
        due("signs 16", x.knew(16, 1, 2, 0, 0), -1);
        due("what 2", x.knew(1, 1, 2, 0, 2), -1);
        due("what -1", x.knew(1, 1, 2, 0, -1), -1);
        due("firm 5", x.signs(5, 1, 2, 0), -1);
        due("firm -1", x.signs(-1, 1, 2, 0), -1);

        x = made(RING);
        due("in one round is not in two", x.signs(1, 1, 4, 10), 11);
        x.sell(3, 0, 1, 0, 60, 9, 0);
        due("in two", x.signs(1, 1, 4, 10), 15);
        due("but not by marks", x.signs(1, 0, 4, 10), 11);
        due("it alone is missing in its party", x.signs(2, 1, 4, 10) & 8, 0);
        due("a missing one never knew", x.knew(2, 1, 4, 10, 1) & 5, 0);
    }

    private static void parties() {
        SaleRounds x = made("land a 1;firm p a 0 hand 3;firm q a 0 room 3;firm r a 0 hand 4 room 3;firm s a 0 hand 4;firm t a 0;firm u a 0;firm v a 0 room 4;");
        due("hand 3 is no room 3", x.firm(1, 7), 1);
        due("joined by another", x.firm(3, 7), 1);
        due("alone", x.firm(5, 7), 5);
        due("parties", x.hands(), 5);
        x = made("land a 1;firm p a 0 hand 1;firm q a 0 room 2;firm r a 0 hand 1 room 2;");
        due("joined late", x.firm(1, 7), 0);
        due("one party", x.hands(), 1);
    }

    private static void papers() {
        SaleRounds x = made(FOUR);
        due("no sales of it", x.lacking(99), 0);
        x.sell(1, 2, 1, 0, 1, 5, 9);
        due("the first goes on from none", x.lacking(9), 0);
        x.sell(0, 1, 1, 1, 1, 4, 9);
        due("by days", x.lacking(9), 0);
        x.sell(3, 0, 1, 0, 1, 5, 9);
        due("of one day by numbers", x.lacking(9), 1);
        x.sell(1, 0, 1, 0, 1, 9, 9);
        due("one more", x.lacking(9), 2);
        due("another mark", x.lacking(8), 0);
        due("mark 0", x.lacking(0), -1);
        due("mark 100", x.lacking(100), -1);
    }

    private static void stopping() {
        SaleRounds x = made(FOUR);
        due("stop two", x.stop(5), 2);
        due("count", x.count(5), 2);
        due("stop a fifth", x.stop(16), -1);
        due("stop below", x.stop(-1), -1);
        due("stay stopped", x.count(5), 2);
        x.stop(0);
        // Two rounds p-q and r-q, one more s-p; each takes what its dearer sale is worth.
        x.sell(0, 1, 1, 0, 10, 0, 0);
        x.sell(1, 0, 1, 0, 30, 1, 0);
        x.sell(2, 1, 1, 0, 10, 0, 0);
        x.sell(1, 2, 1, 0, 40, 1, 0);
        x.sell(3, 0, 1, 1, 90, 0, 0);
        x.sell(0, 3, 1, 1, 10, 1, 0);
        due("rounds", x.rounds(1, 2, 1), 3);
        due("all takes", x.takes(1, 2, 1), 200 + 300 + 800);
        due("nothing to stop", x.fewest(1, 2, 1, 1300), 0);
        due("s-p is the one", x.fewest(1, 2, 1, 1299), 1);
        due("least bits of several", x.fewest(1, 2, 1, 800), 1);
        due("fewer go ahead of lesser bits", x.fewest(1, 2, 1, 299), 3);
        due("two", x.fewest(1, 2, 1, 0), 3);
        due("the highest t", x.fewest(1, 2, 1, Long.MAX_VALUE), 0);
        due("t below 0", x.fewest(1, 2, 1, -1), -1);
        x.stop(8);
        due("those stopped as well", x.fewest(1, 2, 1, 0), 2);
    }

    private static void starving() {
        SaleRounds x = made(RING);
        due("rule in both", x.rule(3), 2);
        due("count", x.count(6), 2);
        due("no tax", x.look(0, 7), 0);
        due("none missing", x.count(7), 0);
        due("nothing taken", x.takes(1, 4, 10), 0);
        due("rule in a third", x.rule(4), -1);
        due("rule below", x.rule(-1), -1);
        due("starve looks past the rule", x.starve(1, 4, 10, 0, 0), 3);
        x.sell(3, 2, 1, 0, 1, 9, 0);
        x.pay(2, 100);
        due("burden looks past the rule", x.burden(1), 2);
        due("burden with a missing one", x.burden(0), 0);
        due("burden of none", x.burden(2), -1);
        due("burden of -1", x.burden(-1), -1);
        due("only a is worth it", x.starve(1, 4, 10, 9, 0), 1);
        due("what is left", x.starve(1, 4, 10, 9, 1), 0);
        due("its burden", x.starve(1, 4, 10, 9, 2), 0);
        due("what 3", x.starve(1, 4, 10, 9, 3), -1);
        due("what -1", x.starve(1, 4, 10, 9, -1), -1);
        due("purse -1", x.starve(1, 4, 10, -1, 0), -1);
        x = made("land a 10;good x;firm p a 0;firm q a 0;firm r a 0;firm s a 0;sale p q 1 x 9 day 0;sale q p 1 x 8 day 1;sale r s 1 x 1 day 0;sale s r 1 x 1 day 0;");
        due("burden", x.burden(0), 2);
        due("purse too small", x.starve(1, 2, 1, 1, 0), 0);
        due("so they take", x.starve(1, 2, 1, 1, 1), 10);
        due("purse enough", x.starve(1, 2, 1, 2, 0), 1);
        due("then they take", x.starve(1, 2, 1, 2, 1), 0);
        due("at a burden", x.starve(1, 2, 1, 2, 2), 2);
    }

    public static void main(String[] args) {
        newObject();
        feedAndBook();
        faults();
        names();
        sums();
        sales();
        rounds();
        spent();
        judges();
        flows();
        luck();
        knowing();
        parties();
        papers();
        stopping();
        starving();
        close();
    }
}
