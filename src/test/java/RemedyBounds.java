/** Whom to stop, and a rule by lands (==== 5.), and the promises 21 to 25. */
final class RemedyBounds extends SaleRoundsChecks {
    private static final int LEAST = Integer.MIN_VALUE;
    private static final int MOST = Integer.MAX_VALUE;
    private static final int[][] WRONG = {{-1, 2, 0}, {2, 2, 0}, {0, 1, 0}, {1, 7, 0}, {0, 2, -1}, {1, 2, 401}, {MOST, 2, 0}, {0, LEAST, 0}, {0, 2, MOST}};

    static void run() {
        stopping();
        fewest();
        manyToStop();
        fewestAnswers();
        ruling();
        burdens();
        starving();
        fiveLands();
        starvingPastTheRule();
        starveAnswers();
    }

    private static void stopping() {
        says("STOPPED FIRMS (bits, none at first).");
        SaleRounds x = firms(12);
        due("none at first", x.count(5), 0);
        says("STOPPED FIRMS are these (bits): how many; NONE: bits of no FIRMS.");
        due("all", x.stop(0xfff), 12);
        due("all of them count", x.count(5), 12);
        due("these, not those besides", x.stop(0x801), 2);
        due("two count", x.count(5), 2);
        for (int firms : new int[] {0x1000, 0x1001, 1 << 30, LEAST, -1, MOST, ~0xfff}) {
            due("stop " + firms, x.stop(firms), -1);
            due("two stay", x.count(5), 2);
        }
        due("none", x.stop(0), 0);
        due("none count", x.count(5), 0);
        x = firms(2);
        due("both", x.stop(3), 2);
        due("a third", x.stop(4), -1);
        due("a third besides", x.stop(5), -1);
        due("both stay", x.count(5), 2);
        x = made("land a 0;");
        due("none of no firms", x.stop(0), 0);
        due("one of no firms", x.stop(1), -1);
    }

    private static void exchange(SaleRounds x, int a, int b, int good, int gain) {
        x.sell(a, b, 1, good, 1, 0, 0);
        x.sell(b, a, 1, good, 1 + gain, 1, 0);
    }

    private static void fewest() {
        says("FEWEST to stop so that all ROUNDS (WAY, K, D; without any that has one of these; those STOPPED now as well) TAKE at most T together: of several the least bits.");
        SaleRounds x = firms(5);
        due("no rounds", x.fewest(1, 2, 1, 0), 0);
        exchange(x, 1, 3, 0, 2);
        due("least bits of two", x.fewest(1, 2, 1, 0), bits(1));
        due("just below", x.fewest(1, 2, 1, 19), bits(1));
        due("just what they take", x.fewest(1, 2, 1, 20), 0);
        due("one more", x.fewest(1, 2, 1, 21), 0);
        exchange(x, 2, 3, 0, 3);
        due("takes", x.takes(1, 2, 1), 50);
        due("the one in both", x.fewest(1, 2, 1, 0), bits(3));
        due("one of 20 left", x.fewest(1, 2, 1, 20), bits(2));
        due("30 left", x.fewest(1, 2, 1, 30), bits(1));
        due("less than 20 left", x.fewest(1, 2, 1, 19), bits(3));
        due("49", x.fewest(1, 2, 1, 49), bits(1));
        due("50", x.fewest(1, 2, 1, 50), 0);
        exchange(x, 0, 4, 1, 1);
        due("two of them", x.fewest(1, 2, 1, 0), bits(0, 3));
        due("one, 10 left", x.fewest(1, 2, 1, 10), bits(3));
        due("k and d tell which: within a day", x.fewest(1, 2, 0, 0), 0);
        due("by marks none", x.fewest(0, 2, 1, 0), 0);
        x.stop(bits(3));
        due("one is stopped", x.fewest(1, 2, 1, 0), bits(0));
        x.stop(bits(3, 4));
        due("two are stopped", x.fewest(1, 2, 1, 0), 0);
        x.stop(bits(0));
        due("another is stopped", x.fewest(1, 2, 1, 0), bits(3));
        due("those stopped stay", x.count(5), 1);
        x.stop(0);
        x.rule(1);
        due("nothing is taken with the rule", x.fewest(1, 2, 1, 0), 0);
        x = made("land a 1;good x;firm a a 0;firm b a 0;");
        exchange(x, 0, 1, 0, 1);
        due("a round that takes 1", x.takes(1, 2, 1), 1);
        due("is to be stopped", x.fewest(1, 2, 1, 0), 1);
        due("but not for a t of 1", x.fewest(1, 2, 1, 1), 0);
        // A round that takes nothing needs no one to stop.
        x = firms(2);
        exchange(x, 0, 1, 0, 0);
        due("a round", x.rounds(1, 2, 1), 1);
        due("that takes nothing", x.fewest(1, 2, 1, 0), 0);
    }

    /** Among those of a group each two have a round; the last one of it never owes. */
    private static void group(SaleRounds x, int first, int last) {
        for (int i = first; i < last; i++) {
            x.sell(last, i, 1, 0, 1, 0, 0);
            x.sell(i, last, 999, 0, 2, 1, 0);
            for (int j = i + 1; j < last; j++) {
                exchange(x, i, j, 0, 1);
            }
        }
    }

    private static void manyToStop() {
        SaleRounds x = firms(12);
        group(x, 0, 4);
        group(x, 5, 8);
        group(x, 9, 11);
        due("sales", x.count(3), 38);
        due("rounds", x.rounds(1, 2, 1), 19);
        due("all take", x.takes(1, 2, 1), 190);
        due("nine, the least bits", x.fewest(1, 2, 1, 0), bits(0, 1, 2, 3, 5, 6, 7, 9, 10));
        due("one may be left", x.fewest(1, 2, 1, 10), bits(0, 1, 2, 3, 5, 6, 7, 9));
        due("189", x.fewest(1, 2, 1, 189), bits(0));
        due("186 at the highest with one", x.fewest(1, 2, 1, 150), bits(0));
        due("149", x.fewest(1, 2, 1, 149), bits(0, 1));
        x.stop(bits(4, 8, 11));
        due("with the last ones stopped", x.fewest(1, 2, 1, 0), bits(0, 1, 2, 5, 6, 9));
        x = firms(12);
        for (int i = 0; i < 12; i += 2) {
            exchange(x, i, i + 1, 0, 1);
        }
        due("one of each two", x.fewest(1, 2, 1, 0), 0x555);
        due("five of six", x.fewest(1, 2, 1, 10), 0x155);
        due("one of six", x.fewest(1, 2, 1, 59), 1);
        x.stop(0x555);
        due("all stopped already", x.fewest(1, 2, 1, 0), 0);
    }

    private static SaleRounds crowd() {
        SaleRounds x = firms(2);
        for (int i = 0; i < 22; i++) {
            x.sell(i % 2, 1 - i % 2, 1, 0, 1 + i % 2, 0, 1);
        }
        return x;
    }

    /** 196 rounds that each take the most that one can; d and e are honest. */
    private static SaleRounds costly() {
        SaleRounds x = made("land a 40;land b 0;good x;firm a a 0;firm b a 0;firm c b 0;firm d a 0;firm e a 0;paid d 1;");
        for (int i = 0; i < 29; i++) {
            int from = i / 14;
            x.sell(from, (from + 1) % 3, 999, 0, 999, from, 0);
        }
        x.sell(3, 4, 1, 0, 1, 0, 0);
        return x;
    }

    private static void fewestAnswers() {
        says("FEWEST (bits); -2, NONE likewise (T below 0, too).");
        SaleRounds x = costly();
        long all = 196L * 39920040L;
        due("the highest t", x.fewest(1, 3, 400, Long.MAX_VALUE), 0);
        due("above an int", x.fewest(1, 3, 400, all), 0);
        due("one below", x.fewest(1, 3, 400, all - 1), 1);
        due("its lower bits alone", x.fewest(1, 3, 400, all & 0xffffffffL), 1);
        due("t 0", x.fewest(1, 3, 400, 0), 1);
        for (long t : new long[] {-1, -2, Long.MIN_VALUE, -1L << 32}) {
            due("t " + t, x.fewest(1, 3, 400, t), -1);
            due("t of many " + t, crowd().fewest(1, 2, 0, t), -1);
        }
        for (int[] w : WRONG) {
            due("fewest " + java.util.Arrays.toString(w), x.fewest(w[0], w[1], w[2], 0), -1);
            due("fewest of many " + java.util.Arrays.toString(w), crowd().fewest(w[0], w[1], w[2], 0), -1);
        }

        says("SPENT likewise.");
        x = crowd();
        due("spent", x.fewest(1, 2, 0, 0), -2);
        due("spent with the highest t", x.fewest(0, 6, 400, Long.MAX_VALUE), -2);
        x.stop(1);
        due("not with one stopped", x.fewest(1, 2, 0, 0), 0);
    }

    private static void ruling() {
        says("THE RULE in LANDS (bits, none at first): there TAX is 0, the buyer pays in himself.");
        SaleRounds x = made("land a 10;land b 10;land c 10;land d 10;land e 10;good x;firm a a 0;firm b a 0;firm c e 0;firm d e 0;sale a b 1 x 1 day 0;sale c d 1 x 1 day 0;");
        due("none at first", x.count(6), 0);
        due("tax in a", x.look(0, 7), 10);
        x.rule(bits(4));
        due("tax in a still", x.look(0, 7), 10);
        due("no tax in e", x.look(1, 7), 0);
        due("c owes nothing", x.firm(2, 4), 0);
        due("nor does d", x.firm(3, 4), 0);
        due("c is not missing", x.firm(2, 6), 0);

        says("THE RULE is in these LANDS (bits): how many; NONE: bits of no LANDS.");
        due("in all", x.rule(31), 5);
        due("all count", x.count(6), 5);
        due("in these, not in those besides", x.rule(bits(0, 4)), 2);
        due("two count", x.count(6), 2);
        for (int lands : new int[] {32, 33, 1 << 30, LEAST, -1, MOST, ~31}) {
            due("rule " + lands, x.rule(lands), -1);
            due("two stay", x.count(6), 2);
        }
        due("in none", x.rule(0), 0);
        due("none count", x.count(6), 0);
        due("tax is back", x.look(1, 7), 10);
        x = made("land a 0;");
        due("in one", x.rule(1), 1);
        due("in a second", x.rule(2), -1);
        due("in a second besides", x.rule(3), -1);
        due("one stays", x.count(6), 1);
    }

    private static void burdens() {
        says("BURDEN of a LAND: SALES between two of its FIRMS of which none is MISSING (as the RULE isn't anywhere).");
        SaleRounds x = made("land a 10;land b 10;good x;firm m a 0;firm n a 0;firm o a 0;firm p a 0;firm q b 0;");
        due("none", x.burden(0), 0);
        sold(x, 0, 1, 1, 9, 0);
        due("a missing one sold", x.burden(0), 0);
        sold(x, 1, 0, 1, 1, 0);
        due("a missing one bought", x.burden(0), 0);
        due("m is missing", x.firm(0, 6), 1);
        sold(x, 1, 2, 1, 1, 0);
        due("between n and o", x.burden(0), 1);
        sold(x, 1, 2, 1, 1, 0);
        due("once more", x.burden(0), 2);
        sold(x, 1, 4, 1, 1, 0);
        sold(x, 4, 1, 1, 1, 0);
        due("not over a border", x.burden(0), 2);
        due("nor in the other land", x.burden(1), 0);
        due("n owes nothing above", x.firm(1, 6), 0);
        x.rule(3);
        due("none is missing now", x.count(7), 0);
        due("as the rule isn't", x.burden(0), 2);
        x.stop(31);
        due("those stopped as well", x.burden(0), 2);
        x.pay(0, 1);
        due("m has paid", x.burden(0), 4);
        x.undo();
        x.undo();
        x.undo();
        due("one less", x.burden(0), 3);

        says("BURDEN; NONE: no such LAND.");
        for (int land : new int[] {-1, 2, 5, MOST, LEAST}) {
            due("burden of " + land, x.burden(land), -1);
        }
        due("of the last", x.burden(1), 0);
        due("of the fifth", made("land a 0;land b 0;land c 0;land d 0;land e 0;").burden(4), 0);
        due("of none", made("good x;").burden(0), -1);
    }

    /** In each land one that is missing, with a round that takes ten times its gain, and honest sales. */
    private static SaleRounds lands(int... gainsAndBurdens) {
        StringBuilder text = new StringBuilder("land a 10;land b 10;land c 10;land d 10;good x;");
        for (int i = 0; i < 12; i++) {
            text.append("firm ").append((char) ('a' + i)).append(" ").append((char) ('a' + i / 3)).append(" 0;");
        }
        SaleRounds x = made(text.toString());
        for (int land = 0; 2 * land < gainsAndBurdens.length; land++) {
            exchange(x, 3 * land + 1, 3 * land, 0, gainsAndBurdens[2 * land]);
            for (int i = 0; i < gainsAndBurdens[2 * land + 1]; i++) {
                sold(x, 3 * land + 1, 3 * land + 2, 1, 1, 0);
            }
            x.pay(3 * land + 1, 9999);
        }
        return x;
    }

    private static void starving() {
        says("STARVE by a purse: of sets of LANDS with BURDEN of at most that together the one with which ROUNDS TAKE the least");
        SaleRounds x = lands(1, 2, 1, 2, 2, 3);
        due("burden of b", x.burden(1), 2);
        due("burden of d", x.burden(3), 0);
        int[][] due = {{0, 40, 0}, {0, 40, 0}, {1, 30, 2}, {4, 20, 3}, {4, 20, 3}, {5, 10, 5}, {5, 10, 5}, {7, 0, 7}, {7, 0, 7}};
        for (int purse = 0; purse < 9; purse++) {
            for (int what = 0; what < 3; what++) {
                due("purse " + purse + " what " + what, x.starve(1, 2, 1, purse, what), due[purse][what]);
            }
        }
        due("the highest purse", x.starve(1, 2, 1, MOST, 0), 7);
        due("k and d tell which: within a day", x.starve(1, 2, 0, MOST, 0), 0);
        due("by marks none", x.starve(0, 2, 1, MOST, 0), 0);

        says("of several the least BURDEN, then the least bits.");
        x = lands(1, 3, 1, 2, 1, 2);
        due("less burden ahead of less bits", x.starve(1, 2, 1, 3, 0), 2);
        due("its burden", x.starve(1, 2, 1, 3, 2), 2);
        due("two of them, the least burden", x.starve(1, 2, 1, 6, 0), 6);
        due("all", x.starve(1, 2, 1, 7, 0), 7);
        x = lands(1, 0, 0, 0, 1, 0);
        due("only those that take", x.starve(1, 2, 1, MOST, 0), 5);
        due("without a burden", x.starve(1, 2, 1, 0, 2), 0);
        x = lands(0, 0, 3, 5);
        due("less taken ahead of less burden", x.starve(1, 2, 1, 5, 0), 2);
        due("a purse one too small", x.starve(1, 2, 1, 4, 0), 0);
    }

    private static void fiveLands() {
        StringBuilder text = new StringBuilder("land a 1;land b 2;land c 3;land d 4;land e 5;good x;");
        for (int i = 0; i < 10; i++) {
            text.append("firm ").append((char) ('a' + i)).append(" ").append((char) ('a' + i / 2)).append(" 0;");
        }
        SaleRounds x = made(text.toString());
        for (int i = 0; i < 10; i += 2) {
            exchange(x, i, i + 1, 0, 1);
        }
        due("five rounds take", x.takes(1, 2, 1), 15);
        due("all five lands", x.starve(1, 2, 1, 0, 0), 31);
        due("nothing is left", x.starve(1, 2, 1, 0, 1), 0);
        due("no burden", x.starve(1, 2, 1, 0, 2), 0);
        x.pay(9, 1);
        due("two sales are honest then", x.burden(4), 2);
        due("four lands", x.starve(1, 2, 1, MOST, 0), 15);
        tell(x, "land a 1;good x;firm p a 0;firm q a 0;sale p q 1 x 1 day 0;sale q p 1 x 2 day 1;");
        due("one land in a new book", x.starve(1, 2, 1, 0, 0), 1);
        due("what is left in it", x.starve(1, 2, 1, 0, 1), 0);
        x.pay(1, 1);
        due("nothing to starve", x.starve(1, 2, 1, 0, 1), 0);
    }

    private static void starvingPastTheRule() {
        says("(those MISSING and ROUNDS as the RULE isn't anywhere; only TAX of those LANDS is 0);");
        SaleRounds x = lands(1, 2, 1, 2, 2, 3);
        int[] best = {0, 0, 1, 4, 4, 5, 5, 7};
        for (int lands = 1; lands < 16; lands += 2) {
            x.rule(lands);
            for (int purse = 0; purse < 8; purse++) {
                due("rule in " + lands + " purse " + purse, x.starve(1, 2, 1, purse, 0), best[purse]);
            }
            due("what is taken, rule in " + lands, x.starve(1, 2, 1, 2, 1), 30);
            due("the rule stays", x.count(6), Integer.bitCount(lands));
        }
        x.rule(0);
        x.stop(1);
        due("rounds of one stopped are none", x.starve(1, 2, 1, 2, 0), 2);
        due("less is taken", x.starve(1, 2, 1, 0, 1), 30);
        // Over a border the rule takes away just what its land's firm takes.
        x = made("land a 10;land b 20;good x;firm a a 0;firm b a 0;firm c b 0;firm d b 0;"
            + "sale a b 1 x 5 day 0;sale b c 1 x 5 day 1;sale c d 1 x 5 day 2;sale d a 1 x 5 day 3;");
        due("both take", x.takes(1, 4, 3), 150);
        due("none left", x.starve(1, 4, 3, 0, 1), 0);
        due("both lands", x.starve(1, 4, 3, 0, 0), 3);
        x.pay(2, 1);
        due("c has paid", x.takes(1, 4, 3), 50);
        due("a alone", x.starve(1, 4, 3, MOST, 0), 1);
        x.sell(1, 3, 1, 0, 1, 9, 0);
        due("a sale over a border is no burden", x.starve(1, 4, 3, 0, 2), 0);
    }

    private static void starveAnswers() {
        says("STARVE, what 0: LANDS (bits), 1: what ROUNDS TAKE then, 2: BURDEN. -2, NONE likewise (a purse below 0, too).");
        SaleRounds x = costly();
        due("above an int", x.starve(1, 3, 400, 0, 1), 196L * 39920040L);
        due("no land", x.starve(1, 3, 400, 0, 0), 0);
        due("no burden", x.starve(1, 3, 400, 0, 2), 0);
        due("the land", x.starve(1, 3, 400, 1, 0), 1);
        due("nothing left", x.starve(1, 3, 400, 1, 1), 0);
        due("its burden", x.starve(1, 3, 400, 1, 2), 1);
        SaleRounds spent = crowd();
        due("spent", spent.starve(1, 2, 0, 0, 0), -2);
        due("spent by marks", spent.starve(0, 6, 400, MOST, 2), -2);
        for (int purse : new int[] {-1, -2, LEAST}) {
            due("purse " + purse, x.starve(1, 3, 400, purse, 0), -1);
            due("purse of many " + purse, spent.starve(1, 2, 0, purse, 0), -1);
        }
        for (int what : new int[] {-1, 3, MOST, LEAST}) {
            due("what " + what, x.starve(1, 3, 400, 0, what), -1);
            due("what of many " + what, spent.starve(1, 2, 0, 0, what), -1);
        }
        for (int[] w : WRONG) {
            due("starve " + java.util.Arrays.toString(w), x.starve(w[0], w[1], w[2], 0, 0), -1);
            due("starve of many " + java.util.Arrays.toString(w), spent.starve(w[0], w[1], w[2], 0, 0), -1);
        }
    }
}
