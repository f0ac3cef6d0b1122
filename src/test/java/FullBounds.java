/** Every call on an object that holds as much as it can: the last land, good, firm and sale count like the others. */
final class FullBounds extends SaleRoundsChecks {
    /** All firms are in the last land, sell the last good on to the next one, each on the next day. */
    private static SaleRounds full() {
        StringBuilder text = new StringBuilder("land a 1;land b 2;land c 3;land d 4;land e 10;good a;good b;good c;good d;");
        for (int i = 0; i < 12; i++) {
            text.append("firm ").append((char) ('a' + i)).append(" e 0").append(i % 11 == 0 ? " hand 9;" : ";");
        }
        for (int i = 0; i < 30; i++) {
            text.append("sale ").append((char) ('a' + i % 12)).append(" ").append((char) ('a' + (i + 1) % 12)).append("1d1day").append(i).append(";");
        }
        SaleRounds x = made(text.toString());
        due("sales of the book", x.count(3), 30);
        for (int i = 30; i < 40; i++) {
            due("sell " + i, x.sell(i % 12, (i + 1) % 12, 1, 3, 1, i, 99), i);
        }
        return x;
    }

    static void run() {
        says("A SALE more (at most 40 in all;");
        SaleRounds x = full();
        int[] counts = {5, 4, 12, 40, 10, 0, 0, 1};
        for (int what = 0; what < 8; what++) {
            due("count " + what, x.count(what), counts[what]);
        }
        due("the last good", x.named(1, packed("d")), 3);
        due("the last firm", x.named(2, packed("l")), 11);
        due("the last sale", x.look(39, 7), 10);
        due("the first owes", x.firm(0, 4), 10);
        due("the last owes", x.firm(11, 4), 0);
        due("the last one's land", x.firm(11, 0), 4);
        due("the last one's party", x.firm(11, 7), 0);
        due("parties", x.hands(), 11);
        due("rounds", x.rounds(1, 6, 400), 0);
        due("round", x.round(1, 6, 400, 0, 0), -1);
        due("judge", x.judge(1, 6, row(34, 35, 36, 37, 38, 39)), 0);
        due("takes", x.takes(1, 6, 400), 0);
        due("flow of the first", x.flow(0, 3), 3);
        due("flow of the last", x.flow(11, 3), 2);
        due("luck", x.luck(1, 2, 0, 0, 10), 10);
        int[] signs = {0, 2, 2, 0, 0, 0, 0, 0, 0, 0, 0, 8};
        for (int firm = 0; firm < 12; firm++) {
            due("signs of " + firm, x.signs(firm, 1, 6, 400), signs[firm]);
        }
        due("may", x.knew(15, 1, 6, 400, 1), bits(1, 2, 11));
        due("must", x.knew(8, 1, 6, 400, 0), bits(11));
        due("lacking", x.lacking(99), 0);
        due("fewest", x.fewest(1, 6, 400, 0), 0);
        due("burden", x.burden(4), 33);
        due("starve", x.starve(1, 6, 400, 40, 0), 0);
        due("pay", x.pay(11, 999999), 999999);
        due("rule", x.rule(31), 5);
        due("none is missing", x.count(7), 0);
        due("stop", x.stop(0xfff), 12);
        due("flow of those stopped", x.flow(0, 3), 0);
        due("undo", x.undo(), 9);
        due("one more", x.sell(11, 0, 1, 3, 1, 400, 99), 39);
        due("it does not go on", x.lacking(99), 1);
    }
}
