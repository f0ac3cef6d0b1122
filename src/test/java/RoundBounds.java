/** Rounds, flows and luck (==== 3.), and the promises about them: 11 to 16. */
final class RoundBounds extends SaleRoundsChecks {
    private static final int LEAST = Integer.MIN_VALUE;
    private static final int MOST = Integer.MAX_VALUE;

    static void run() {
        lengthAndDays();
        goodsAndMarks();
        rows();
        fallingDays();
        stoppedOnes();
        order();
        twoHundred();
        carried();
        taken();
        flows();
        flowsInTime();
        waysTakenBack();
        draws();
        drawsAsTheyAre();
        roundsAnswers();
        roundAnswers();
        judging();
        takesAnswers();
        flowAnswers();
        luckAnswers();
        spentInADraw();
    }

    private static void pair(SaleRounds x, int good, int otherGood, int mark, int otherMark) {
        x.sell(0, 1, 1, good, 1, 0, mark);
        x.sell(1, 0, 1, otherGood, 1, 1, otherMark);
    }

    /** A round over so many firms, a day between each two of its sales. */
    private static SaleRounds ring(int many, int days) {
        SaleRounds x = firms(many);
        for (int i = 0; i < many; i++) {
            sold(x, i, (i + 1) % many, 1, 1, days * i);
        }
        return x;
    }

    private static void lengthAndDays() {
        says("A ROUND by WAY 0 (MARKS) or 1 (KIND), of at most K SALES (2 .. 6) in D DAYS (0 .. 400):");
        for (int many = 2; many <= 7; many++) {
            SaleRounds x = ring(many, 1);
            for (int k = 2; k <= 6; k++) {
                due("ring of " + many + ", k " + k, x.rounds(1, k, 400), many <= k ? 1 : 0);
            }
            due("ring of " + many + " without marks", x.rounds(0, 6, 400), 0);
            due("in so many days", x.rounds(1, 6, many - 1), many <= 6 ? 1 : 0);
            due("in a day less", x.rounds(1, 6, many - 2), 0);
        }
        SaleRounds x = ring(2, 400);
        due("400 days", x.rounds(1, 2, 400), 1);
        due("399 days", x.rounds(1, 2, 399), 0);
        x = ring(6, 0);
        due("one day, from each of them", x.rounds(1, 6, 0), 6);
        due("k 5 on one day", x.rounds(1, 5, 0), 0);
    }

    private static void goodsAndMarks() {
        says("a row of at least 2 SALES of one GOOD, by MARKS of one MARK, not 0:");
        SaleRounds x = firms(2);
        sold(x, 0, 1, 1, 1, 0);
        due("one sale", x.rounds(1, 6, 400), 0);
        int[][] pairs = {{0, 0, 5, 5, 1, 1}, {1, 1, 99, 99, 1, 1}, {0, 0, 1, 1, 1, 1}, {0, 0, 5, 6, 0, 1}, {0, 0, 5, 0, 0, 1}, {0, 0, 0, 5, 0, 1},
            {0, 0, 0, 0, 0, 1}, {0, 1, 5, 5, 0, 0}, {1, 0, 0, 0, 0, 0}, {0, 1, 2, 1, 0, 0}, {1, 0, 1, 2, 0, 0}, {0, 1, 5, 1, 0, 0}, {0, 1, 3, 1, 0, 0}};
        for (int[] p : pairs) {
            x = firms(2);
            pair(x, p[0], p[1], p[2], p[3]);
            String told = "goods " + p[0] + " " + p[1] + " marks " + p[2] + " " + p[3];
            due(told + " by marks", x.rounds(0, 2, 1), p[4]);
            due(told + " by kind", x.rounds(1, 2, 1), p[5]);
            due(told + " judged by marks", x.judge(0, 2, row(0, 1)), p[4]);
            due(told + " judged by kind", x.judge(1, 2, row(0, 1)), p[5]);
        }
        x = firms(3);
        x.sell(0, 1, 1, 0, 1, 0, 2);
        x.sell(1, 2, 1, 1, 1, 1, 2);
        x.sell(2, 0, 1, 0, 1, 2, 2);
        due("the middle one of another good", x.rounds(0, 3, 2), 0);
        due("the same judged", x.judge(0, 3, row(0, 1, 2)), 0);
    }

    private static void rows() {
        says("each from the FIRM to which the one ahead came, the last to the FIRM that the first is from, no FIRM twice among those they are from;");
        SaleRounds x = firms(4);
        sold(x, 0, 1, 1, 1, 0);
        sold(x, 2, 0, 1, 1, 1);
        due("not from it", x.rounds(1, 6, 400), 0);
        due("not from it, judged", x.judge(1, 2, row(0, 1)), 0);
        x = firms(4);
        sold(x, 0, 1, 1, 1, 0);
        sold(x, 1, 2, 1, 1, 1);
        due("not home", x.rounds(1, 6, 400), 0);
        due("not home, judged", x.judge(1, 2, row(0, 1)), 0);
        sold(x, 2, 1, 1, 1, 2);
        sold(x, 1, 0, 1, 1, 3);
        due("b twice in the longest row", x.rounds(1, 6, 400), 2);
        due("over b and b", x.judge(1, 4, row(0, 1, 2, 3)), 0);
        due("a and b", x.judge(1, 2, row(0, 3)), 1);
        due("b and c", x.judge(1, 2, row(1, 2)), 1);
        due("first of them", x.round(1, 6, 400, 0, 5), 3);
        due("second of them", x.round(1, 6, 400, 1, 5), 2);
        x = firms(2);
        for (int i = 0; i < 4; i++) {
            sold(x, i % 2, 1 - i % 2, 1, 1, i);
        }
        due("home already, so twice", x.judge(1, 4, row(0, 1, 2, 3)), 0);
        due("four pairs", x.rounds(1, 6, 400), 4);
        due("a sale twice", x.judge(1, 4, row(0, 1, 0, 1)), 0);
        due("one alone twice", x.judge(1, 2, row(1, 1)), 0);
    }

    private static void fallingDays() {
        says("DAYS never fall along the row, the last one's at most D above the first one's.");
        SaleRounds x = firms(3);
        sold(x, 0, 1, 1, 1, 5);
        sold(x, 1, 2, 1, 1, 5);
        sold(x, 2, 0, 1, 1, 6);
        due("even, then up: one row", x.rounds(1, 3, 1), 1);
        due("the row", x.judge(1, 3, row(0, 1, 2)), 1);
        due("down at its end", x.judge(1, 3, row(1, 2, 0)), 0);
        due("down in its middle", x.judge(1, 3, row(2, 0, 1)), 0);
        due("not within one day", x.rounds(1, 3, 0), 0);
        x = firms(3);
        sold(x, 0, 1, 1, 1, 5);
        sold(x, 1, 2, 1, 1, 4);
        sold(x, 2, 0, 1, 1, 5);
        due("down by one in the middle", x.judge(1, 3, row(0, 1, 2)), 0);
        due("once turned", x.judge(1, 3, row(1, 2, 0)), 1);
        due("the only row", x.rounds(1, 3, 1), 1);
        due("its first sale", x.round(1, 3, 1, 0, 4), 1);
        x = firms(2);
        sold(x, 0, 1, 1, 1, 100);
        sold(x, 1, 0, 1, 1, 107);
        due("7 above", x.rounds(1, 2, 7), 1);
        due("7 above with 6", x.rounds(1, 2, 6), 0);
        due("7 above with 8", x.rounds(1, 2, 8), 1);
    }

    private static void stoppedOnes() {
        says("None of its FIRMS is STOPPED.");
        for (int firm = 0; firm < 4; firm++) {
            SaleRounds x = firms(4);
            for (int i = 0; i < 3; i++) {
                x.sell(i, (i + 1) % 3, 1, 0, 1, i, 1);
            }
            due("before", x.rounds(0, 3, 2), 1);
            x.stop(1 << firm);
            int left = firm == 3 ? 1 : 0;
            due("stopped " + firm + " by marks", x.rounds(0, 3, 2), left);
            due("stopped " + firm + " by kind", x.rounds(1, 3, 2), left);
            due("stopped " + firm + " judged", x.judge(1, 3, row(0, 1, 2)), left);
            due("stopped " + firm + " takes", x.round(1, 3, 2, 0, 0), left == 1 ? 3 : -1);
            x.stop(0);
            due("no longer", x.rounds(0, 3, 2), 1);
            x.stop(1 << firm);
            due("once more", x.rounds(0, 3, 2), left);
            x.stop(0);
            due("no longer once more", x.rounds(0, 3, 2), 1);
        }
    }

    private static void order() {
        says("ROUNDS are numbered by their rows, lesser SALES ahead (a row that goes on behind one that is alike so far).");
        SaleRounds x = firms(3);
        sold(x, 1, 2, 1, 1, 1);
        sold(x, 0, 1, 1, 1, 0);
        sold(x, 2, 0, 1, 1, 2);
        sold(x, 1, 0, 1, 1, 3);
        sold(x, 0, 2, 1, 1, 3);
        int[][] rows = {{1, 0, 2}, {1, 3}, {2, 4}};
        due("three", x.rounds(1, 6, 400), 3);
        for (int i = 0; i < 3; i++) {
            due("sales of " + i, x.round(1, 6, 400, i, 0), rows[i].length);
            for (int j = 0; j < rows[i].length; j++) {
                due("row " + i + " at " + j, x.round(1, 6, 400, i, 4 + j), rows[i][j]);
            }
        }
        due("the first with k 2", x.round(1, 2, 400, 0, 5), 3);
        x = firms(2);
        for (int i = 0; i < 4; i++) {
            sold(x, i / 2, 1 - i / 2, 1, 1, 0);
        }
        int[][] all = {{0, 2}, {0, 3}, {1, 2}, {1, 3}, {2, 0}, {2, 1}, {3, 0}, {3, 1}};
        for (int i = 0; i < 8; i++) {
            due("first of " + i, x.round(1, 2, 0, i, 4), all[i][0]);
            due("second of " + i, x.round(1, 2, 0, i, 5), all[i][1]);
        }
    }

    /** Rounds of two on day 0: as many as twice these numbers' product. */
    private static SaleRounds crowd(int there, int back) {
        SaleRounds x = firms(4);
        for (int i = 0; i < there; i++) {
            x.sell(0, 1, 1, 0, 1, 0, 1);
        }
        for (int i = 0; i < back; i++) {
            x.sell(1, 0, 1, 0, 2, 0, 1);
        }
        return x;
    }

    private static void twoHundred() {
        says("With more than 200 there are none told: SPENT.");
        SaleRounds x = crowd(10, 10);
        due("two hundred", x.rounds(0, 6, 0), 200);
        due("the last one's first", x.round(0, 6, 0, 199, 4), 19);
        due("the last one's second", x.round(0, 6, 0, 199, 5), 9);
        due("the one behind", x.round(0, 6, 0, 200, 4), -1);
        due("takes", x.takes(0, 6, 0), 2000);
        due("fewest", x.fewest(0, 6, 0, 1999), 1);
        due("signs", x.signs(0, 0, 6, 0) & 4, 4);
        due("starve", x.starve(0, 6, 0, 0, 1), 0);
        x.sell(2, 3, 1, 0, 1, 0, 1);
        x.sell(3, 2, 1, 0, 1, 1, 1);
        due("201", x.rounds(0, 6, 1), -2);
        due("200 without that day", x.rounds(0, 6, 0), 200);
        due("201 by kind", x.rounds(1, 2, 400), -2);
        x.undo();
        due("200 once one is taken back", x.rounds(0, 6, 1), 200);
        x = crowd(20, 20);
        due("800", x.rounds(1, 2, 0), -2);
        x.stop(4);
        due("800 with another one stopped", x.rounds(1, 2, 0), -2);
        x.stop(1);
        due("none with one of them stopped", x.rounds(1, 2, 0), 0);
    }

    private static void carried() {
        says("CARRIES: the least NUMBER of its SALES.");
        int[][] numbers = {{1, 999, 999}, {999, 1, 999}, {999, 999, 1}, {999, 999, 999}, {5, 4, 6}};
        for (int[] n : numbers) {
            SaleRounds x = firms(3);
            for (int i = 0; i < 3; i++) {
                sold(x, i, (i + 1) % 3, n[i], 1, i);
            }
            due("carries of " + java.util.Arrays.toString(n), x.round(1, 3, 2, 0, 1), Math.min(n[0], Math.min(n[1], n[2])));
        }
        SaleRounds x = firms(3);
        sold(x, 2, 1, 1, 9, 0);
        sold(x, 0, 1, 7, 1, 1);
        sold(x, 1, 0, 8, 1, 2);
        due("a sale beside it is less", x.round(1, 2, 1, 0, 1), 7);
        due("its firms alone", x.round(1, 2, 1, 0, 3), 3);
        due("what the seller beside it takes is none of it", x.takes(1, 2, 1), 0);
    }

    private static void taken() {
        says("TAKES: of its FIRMS that are MISSING those of which (PRICE and TAX of the LAND of its SALE in it, 0 over a border or in a LAND with the RULE, "
            + "less the same of the SALE in it by which it bought) is above 0: that times CARRIES, all together.");
        int[][] prices = {{10, 30, 1000}, {10, 10, 0}, {10, 11, 50}, {10, 9, 0}};
        for (int[] p : prices) {
            SaleRounds x = firms(2);
            sold(x, 0, 1, 5, p[0], 0);
            sold(x, 1, 0, 7, p[1], 1);
            due("b is missing", x.firm(1, 6), 1);
            due("a is not", x.firm(0, 6), 0);
            due("prices " + p[0] + " and " + p[1], x.round(1, 2, 1, 0, 2), p[2]);
        }
        SaleRounds x = firms(3);
        sold(x, 0, 1, 2, 10, 0);
        sold(x, 1, 2, 2, 20, 1);
        sold(x, 2, 0, 2, 30, 2);
        due("two that are missing", x.round(1, 3, 2, 0, 2), 400);
        x.pay(1, 1);
        due("with a gap still", x.round(1, 3, 2, 0, 2), 400);
        x.pay(1, 1);
        due("one alone is missing", x.round(1, 3, 2, 0, 2), 200);
        x.rule(1);
        due("none with the rule", x.round(1, 3, 2, 0, 2), 0);
        x = made("land a 40;land b 20;good x;firm p a 0;firm q a 0;firm r b 0;sale p q 999 x 999 day 0;sale q r 999 x 999 day 1;sale r p 999 x 998 day 2;");
        due("bought over a border", x.round(1, 3, 2, 0, 2), 39920040);
        x.rule(2);
        due("the rule is elsewhere", x.round(1, 3, 2, 0, 2), 39920040);
        x.rule(1);
        due("the rule is there", x.round(1, 3, 2, 0, 2), 0);
        x = made("land a 40;land b 20;good x;firm p a 0;firm q a 0;firm r b 0;sale r q 1 x 1 day 0;sale q p 1 x 1 day 1;sale p r 9 x 9 day 2;sale p q 9 x 9 day 0;");
        due("p is missing", x.firm(0, 6), 1);
        due("it sold over a border", x.round(1, 3, 2, 0, 2), 0);
        x = firms(6);
        for (int i = 0; i < 6; i++) {
            sold(x, i, (i + 1) % 6, 999, i == 5 ? 999 : 1 + i, i);
        }
        due("the last gets what all together lose", x.round(1, 6, 5, 0, 2), 998L * 10 * 999);
    }

    private static void flows() {
        says("FLOW of a FIRM and a GOOD: the most of it that can have gone from it and come back: pieces sold by it,");
        SaleRounds x = firms(3);
        due("nothing sold", x.flow(0, 0), 0);
        sold(x, 0, 1, 9, 1, 0);
        due("nothing bought", x.flow(0, 0), 0);
        x.sell(1, 0, 9, 1, 1, 0, 0);
        due("another good came back", x.flow(0, 0), 0);
        sold(x, 1, 0, 4, 1, 0);
        sold(x, 1, 0, 3, 1, 0);
        due("by two sales", x.flow(0, 0), 7);
        due("of the other good", x.flow(0, 1), 0);
        x = firms(2);
        sold(x, 0, 1, 5, 1, 0);
        sold(x, 1, 0, 2, 1, 0);
        sold(x, 1, 0, 9, 1, 0);
        due("no more than it sold, though more came", x.flow(0, 0), 5);
        due("asked again", x.flow(0, 0), 5);
        x.undo();
        due("once one is taken back", x.flow(0, 0), 2);
        x = firms(12);
        for (int i = 0; i < 12; i++) {
            x.sell(i, (i + 1) % 12, 5, 0, 1, 30 * i, i);
        }
        due("over twelve firms, whatever marks", x.flow(0, 0), 5);
        due("days fall from another one", x.flow(1, 0), 0);

        says("none beyond NUMBERS, bought by it;");
        int[][] numbers = {{1, 999, 999, 1}, {999, 1, 999, 1}, {999, 999, 1, 1}, {999, 999, 999, 999}, {7, 6, 8, 6}};
        for (int[] n : numbers) {
            x = firms(3);
            for (int i = 0; i < 3; i++) {
                sold(x, i, (i + 1) % 3, n[i], 1, 0);
            }
            due("numbers " + java.util.Arrays.toString(n), x.flow(0, 0), n[3]);
        }
        x = firms(2);
        for (int i = 0; i < 40; i++) {
            sold(x, i % 2, 1 - i % 2, 999, 1, 0);
        }
        due("the most of all", x.flow(0, 0), 19980);

        says("not through it in between;");
        x = firms(3);
        sold(x, 0, 1, 5, 1, 0);
        sold(x, 1, 0, 5, 1, 1);
        sold(x, 0, 2, 4, 1, 2);
        sold(x, 2, 0, 4, 1, 3);
        due("each time anew", x.flow(0, 0), 9);
        due("not home any more", x.flow(1, 0), 0);

        says("no SALE of a STOPPED one counts.");
        x = firms(4);
        sold(x, 0, 1, 5, 1, 0);
        sold(x, 1, 0, 5, 1, 0);
        sold(x, 0, 2, 4, 1, 0);
        sold(x, 2, 0, 4, 1, 0);
        int[] left = {9, 0, 4, 0, 5, 0, 0, 0, 9};
        for (int firms = 0; firms < 9; firms++) {
            x.stop(firms);
            due("stopped " + firms, x.flow(0, 0), left[firms]);
        }
    }

    private static void flowsInTime() {
        says("handed on by others on DAYS that never fall (of one DAY in whatever order),");
        SaleRounds x = firms(3);
        sold(x, 1, 0, 5, 1, 7);
        sold(x, 0, 1, 5, 1, 7);
        due("of one day", x.flow(0, 0), 5);
        due("of one day from the other", x.flow(1, 0), 5);
        x = firms(3);
        sold(x, 0, 1, 5, 1, 7);
        sold(x, 1, 0, 5, 1, 6);
        due("a day ahead", x.flow(0, 0), 0);
        due("a day behind", x.flow(1, 0), 5);
        x = firms(3);
        sold(x, 0, 1, 10, 1, 5);
        sold(x, 1, 0, 4, 1, 4);
        sold(x, 1, 0, 3, 1, 5);
        sold(x, 1, 0, 2, 1, 400);
        due("what is early does not count", x.flow(0, 0), 5);
        x = firms(3);
        sold(x, 2, 0, 6, 1, 9);
        sold(x, 1, 2, 6, 1, 8);
        sold(x, 0, 1, 6, 1, 7);
        due("told backwards", x.flow(0, 0), 6);
        x = firms(3);
        sold(x, 0, 1, 6, 1, 3);
        sold(x, 1, 2, 4, 1, 3);
        sold(x, 1, 2, 9, 1, 2);
        sold(x, 2, 0, 9, 1, 3);
        due("early in the middle", x.flow(0, 0), 4);
        x = firms(4);
        sold(x, 0, 1, 3, 1, 1);
        sold(x, 1, 2, 3, 1, 1);
        sold(x, 2, 1, 3, 1, 1);
        sold(x, 1, 0, 3, 1, 1);
        due("around others on one day adds nothing", x.flow(0, 0), 3);
        // Early pieces can only go the early way, so late ones must leave it to them.
        x = firms(4);
        sold(x, 0, 1, 5, 1, 0);
        sold(x, 0, 1, 5, 1, 9);
        sold(x, 1, 0, 5, 1, 5);
        sold(x, 1, 0, 5, 1, 9);
        due("both in time", x.flow(0, 0), 10);
        x = firms(4);
        sold(x, 0, 1, 5, 1, 9);
        sold(x, 0, 1, 5, 1, 8);
        sold(x, 1, 0, 9, 1, 8);
        sold(x, 1, 0, 2, 1, 9);
        due("late ones have the late way alone", x.flow(0, 0), 7);
    }

    private static int flowOf(int firm, int[][] sales) {
        SaleRounds x = firms(5);
        for (int[] s : sales) {
            sold(x, s[0], s[1], s[2], 1, s[3]);
        }
        return x.flow(firm, 0);
    }

    /** The first way found blocks the others, whatever the order in which the sales were told. */
    private static void waysTakenBack() {
        says("FLOW of a FIRM and a GOOD: the most of it that can have gone from it and come back:");
        int[][] sales = {{0, 1, 0}, {0, 2, 0}, {1, 3, 1}, {3, 0, 2}, {2, 3, 1}, {1, 4, 1}, {4, 5, 1}, {5, 0, 1}};
        int[][] orders = {{0, 1, 2, 3, 4, 5, 6, 7}, {7, 6, 5, 4, 3, 2, 1, 0}, {3, 0, 1, 4, 5, 6, 7, 2}, {2, 4, 3, 0, 1, 7, 6, 5}, {0, 2, 1, 4, 5, 6, 7, 3}};
        for (int[] order : orders) {
            SaleRounds x = firms(6);
            for (int i : order) {
                sold(x, sales[i][0], sales[i][1], 1, 1, sales[i][2]);
            }
            due("order " + java.util.Arrays.toString(order), x.flow(0, 0), 2);
        }
        // Twice over: a sale that was given back must be free for the next way through it.
        for (int[] order : orders) {
            SaleRounds x = firms(7);
            for (int i : order) {
                sold(x, sales[i][0], sales[i][1], i == 2 ? 1 : 2, 1, sales[i][2]);
            }
            sold(x, 0, 6, 1, 1, 0);
            sold(x, 6, 1, 1, 1, 0);
            due("wider, order " + java.util.Arrays.toString(order), x.flow(0, 0), 4);
        }
        int[][] late = {{0, 1, 1, 1}, {0, 1, 1, 5}, {0, 1, 1, 5}, {1, 0, 1, 5}, {1, 0, 1, 2}, {1, 0, 1, 2}};
        due("the early one gives way once, not twice", flowOf(0, late), 2);
        int[][] shared = {{0, 1, 1, 1}, {0, 1, 2, 3}, {0, 1, 2, 5}, {1, 0, 3, 5}, {1, 0, 2, 2}};
        due("no more gives way than was sent", flowOf(0, shared), 4);
        int[][] around = {{2, 3, 4, 0}, {3, 1, 3, 0}, {1, 4, 3, 0}, {2, 3, 3, 0}, {4, 3, 4, 0}, {1, 2, 1, 0}, {0, 1, 4, 0}, {4, 0, 4, 0}};
        due("no more than it sold, by three ways", flowOf(1, around), 4);
        int[][] twoDays = {{2, 0, 1, 0}, {0, 1, 1, 1}, {1, 2, 1, 0}, {2, 0, 2, 2}, {0, 1, 1, 0}, {0, 1, 2, 3}, {1, 2, 1, 3}};
        due("an early and a late one", flowOf(2, twoDays), 2);
        SaleRounds x = firms(2);
        sold(x, 0, 1, 1, 1, 1);
        sold(x, 1, 0, 2, 1, 3);
        sold(x, 0, 1, 1, 1, 1);
        for (int i = 0; i < 3; i++) {
            due("from a", x.flow(0, 0), 2);
            due("from b, whatever was asked ahead", x.flow(1, 0), 0);
        }
    }

    /** The numbers of luck, with an arithmetic of its own. */
    private static long after(long number) {
        return java.math.BigInteger.valueOf(number).multiply(java.math.BigInteger.valueOf(1103515245L))
            .add(java.math.BigInteger.valueOf(12345L)).mod(java.math.BigInteger.ONE.shiftLeft(31)).longValue();
    }

    /** To whom sales go once mixed, from a number on, which stands behind them and becomes the last one. */
    private static long mix(int[] to, long number) {
        long last = number;
        for (int i = to.length - 1; i >= 1; i--) {
            last = after(last);
            int other = (int) (last / 65536 % (i + 1));
            int kept = to[i];
            to[i] = to[other];
            to[other] = kept;
        }
        return last;
    }

    private static void draws() {
        says("LUCK by a seed 0 .. 2147483647: numbers are the last one (at first the seed) times 1103515245 and 12345, without what is above 31 bits.");
        SaleRounds x = ring(2, 0);
        due("seed 0: 12345 by 65536 is 0, so both change", x.luck(1, 2, 0, 0, 1), 0);
        due("the highest seed: 1043980748 by 65536 is odd, so none does", x.luck(1, 2, 0, MOST, 1), 1);
        for (int seed : new int[] {0, 1, 2, 3, 65535, 65536, 1 << 30, MOST - 1, MOST}) {
            long number = seed;
            int many = 0;
            for (int draws = 1; draws <= 10; draws++) {
                number = after(number);
                many += number / 65536 % 2;
                due("seed " + seed + " draws " + draws, x.luck(1, 2, 0, seed, draws), many);
            }
        }

        says("(SALES to whom they are from are in none).");
        x = ring(2, 0);
        due("both to themselves", x.luck(1, 2, 0, 0, 1), 0);
        due("by k 6, too", x.luck(1, 6, 400, 0, 1), 0);
    }

    private static void drawsAsTheyAre() {
        says("For each draw, SALES being as they are: of SALES from the last one on to the second (numbers i), the one to whom it goes changes places "
            + "with that of the SALE (number by 65536, modulo i and 1).");
        for (int many = 3; many <= 5; many++) {
            SaleRounds x = ring(many, 0);
            due("ring of " + many, x.rounds(1, many, 0), many);
            for (int seed : new int[] {0, 1, 77, 4711, 1999999999, MOST}) {
                long number = seed;
                int least = 0;
                for (int draw = 0; draw < 10; draw++) {
                    int[] to = new int[many];
                    for (int i = 0; i < many; i++) {
                        to[i] = (i + 1) % many;
                    }
                    number = mix(to, number);
                    // On one day a ring of so many sales has so many rows; those to themselves have none.
                    int stay = 0;
                    for (int i = 0; i < many; i++) {
                        stay += to[i] == i ? 0 : 1;
                    }
                    least += stay >= many ? 1 : 0;
                }
                due("ring of " + many + " seed " + seed, x.luck(1, many, 0, seed, 10), least);
            }
            due("sales are as they were", x.look(0, 1), 1);
            due("rounds are as they were", x.rounds(1, many, 0), many);
        }

        says("Of 1 .. 10 draws: how many have as many ROUNDS at least as there are");
        SaleRounds x = made("land a 10;good x;firm a a 0;firm b a 0;");
        due("no sales", x.luck(1, 6, 400, 5, 10), 10);
        due("no sales, once", x.luck(1, 6, 400, 5, 1), 1);
        sold(x, 0, 1, 1, 1, 0);
        due("one sale", x.luck(1, 6, 400, 5, 7), 7);
        x = ring(4, 0);
        x.stop(1);
        due("none are there, with one stopped", x.luck(1, 4, 0, 3, 10), 10);
        due("none are there, by marks", x.luck(0, 4, 0, 3, 10), 10);
    }

    private static final int[][] WRONG = {{-1, 2, 0}, {2, 2, 0}, {MOST, 2, 0}, {LEAST, 2, 0}, {0, 1, 0}, {1, 0, 0}, {0, -1, 0}, {1, 7, 0},
        {0, MOST, 0}, {0, LEAST, 0}, {0, 2, -1}, {1, 2, 401}, {1, 6, MOST}, {1, 6, LEAST}, {-1, 7, 401}};

    private static void roundsAnswers() {
        says("How many ROUNDS there are; -2: SPENT; NONE: no such WAY, K, D.");
        SaleRounds x = ring(2, 0);
        SaleRounds spent = crowd(20, 20);
        due("two", x.rounds(1, 2, 0), 2);
        due("by the most", x.rounds(1, 6, 400), 2);
        x.undo();
        due("one is taken back", x.rounds(1, 6, 400), 0);
        sold(x, 1, 0, 1, 1, 0);
        due("and told again", x.rounds(1, 6, 400), 2);
        tell(x, "!");
        due("a faulty book", x.rounds(1, 6, 400), 2);
        tell(x, "land a 1;good x;firm p a 0;firm q a 0;sale p q 1 x 1 day 0;");
        due("a new book", x.rounds(1, 6, 400), 0);
        due("spent", spent.rounds(1, 2, 0), -2);
        due("spent by marks", spent.rounds(0, 6, 400), -2);
        for (int[] w : WRONG) {
            due("rounds " + java.util.Arrays.toString(w), x.rounds(w[0], w[1], w[2]), -1);
            due("rounds of many " + java.util.Arrays.toString(w), spent.rounds(w[0], w[1], w[2]), -1);
        }
    }

    private static void roundAnswers() {
        says("Of ROUND i (of these), what 0: SALES, 1: CARRIES, 2: TAKES, 3: FIRMS (bits), 4 and on: SALE what less 4.");
        SaleRounds x = firms(12);
        for (int i = 0; i < 6; i++) {
            sold(x, 11 - i, i == 5 ? 11 : 10 - i, 9 + i, 1 + i, i);
        }
        int[] due = {6, 9, 10 * 5 * 9, 0xfc0, 0, 1, 2, 3, 4, 5};
        for (int what = 0; what < 10; what++) {
            due("round 0 what " + what, x.round(1, 6, 5, 0, what), due[what]);
        }

        says("-2: SPENT; NONE: there is none such.");
        for (int what : new int[] {10, 11, -1, MOST, LEAST, LEAST + 3}) {
            due("what " + what, x.round(1, 6, 5, 0, what), -1);
        }
        for (int i : new int[] {1, 2, 200, -1, MOST, LEAST}) {
            due("round " + i, x.round(1, 6, 5, i, 0), -1);
        }
        due("none with k 5", x.round(1, 5, 5, 0, 0), -1);
        due("none with d 4", x.round(1, 6, 4, 0, 0), -1);
        due("none by marks", x.round(0, 6, 5, 0, 0), -1);
        SaleRounds two = ring(2, 0);
        due("a row's second sale", two.round(1, 2, 0, 1, 5), 0);
        due("behind a row of two", two.round(1, 2, 0, 1, 6), -1);
        SaleRounds spent = crowd(20, 20);
        due("spent", spent.round(1, 2, 0, 0, 0), -2);
        due("spent, the last sale", spent.round(0, 6, 400, 199, 5), -2);
        for (int[] w : WRONG) {
            due("round " + java.util.Arrays.toString(w), x.round(w[0], w[1], w[2], 0, 0), -1);
            due("round of many " + java.util.Arrays.toString(w), spent.round(w[0], w[1], w[2], 0, 0), -1);
        }
    }

    private static void judging() {
        says("Whether told SALES (n of them, 2 .. 6, six bits each, the first lowest; bits beyond aren't looked at) are a ROUND (1, 0), however many SALES and DAYS;");
        for (int many = 2; many <= 6; many++) {
            SaleRounds x = firms(7);
            for (int i = 0; i < 40 - many; i++) {
                sold(x, 6, 0, 1, 1, 0);
            }
            long told = 0;
            long turned = 0;
            for (int i = 0; i < many; i++) {
                long number = sold(x, i, (i + 1) % many, 1, 1, 400 * i / (many - 1));
                told |= number << 6 * i;
                turned |= number << 6 * (many - 1 - i);
            }
            due("ring of " + many, x.judge(1, many, told), 1);
            due("bits beyond of " + many, x.judge(1, many, told | -1L << 6 * many), 1);
            due("the sign beyond of " + many, x.judge(1, many, told | 1L << 63), 1);
            due("unmarked, of " + many, x.judge(0, many, told), 0);
            due("the last one lowest, of " + many, x.judge(1, many, turned), 0);
            due("one less of " + many, x.judge(1, many - 1, told), many == 2 ? -1 : 0);
            due("one more of " + many, x.judge(1, many + 1, told), many == 6 ? -1 : 0);
        }

        says("NONE: no such n, WAY, SALES.");
        SaleRounds x = ring(3, 0);
        for (int n : new int[] {1, 0, -1, 7, 8, 64, MOST, LEAST}) {
            due("n " + n, x.judge(1, n, row(0, 1, 2)), -1);
        }
        for (int way : new int[] {-1, 2, MOST, LEAST}) {
            due("way " + way, x.judge(way, 3, row(0, 1, 2)), -1);
        }
        due("sale 3 last", x.judge(1, 3, row(0, 1, 3)), -1);
        due("sale 3 first", x.judge(1, 3, row(3, 1, 2)), -1);
        due("sale 63 in the middle", x.judge(1, 3, row(0, 63, 2)), -1);
        due("sale 3 behind what is no row", x.judge(1, 3, row(0, 0, 3)), -1);
        due("all of them", x.judge(1, 6, -1L), -1);
        due("the last one there", x.judge(1, 3, row(2, 0, 1)), 1);
        x.undo();
        due("once it is taken back", x.judge(1, 3, row(0, 1, 2)), -1);
    }

    private static void takesAnswers() {
        says("What all ROUNDS TAKE; -2, NONE likewise.");
        SaleRounds x = firms(2);
        due("no rounds", x.takes(1, 6, 400), 0);
        sold(x, 0, 1, 5, 10, 0);
        sold(x, 1, 0, 7, 30, 0);
        due("two rows", x.takes(1, 2, 0), 2000);
        due("none by marks", x.takes(0, 2, 0), 0);
        x.stop(1);
        due("stopped", x.takes(1, 2, 0), 0);
        // Above what an int can hold: 200 rounds, each of which takes the most.
        x = made("land a 40;land b 0;good x;firm a a 0;firm b a 0;firm c b 0;");
        for (int i = 0; i < 29; i++) {
            int from = i / 14;
            sold(x, from, (from + 1) % 3, 999, 999, from);
        }
        due("196 rounds", x.rounds(1, 3, 400), 196);
        due("each takes", x.round(1, 3, 400, 195, 2), 39920040);
        due("all take", x.takes(1, 3, 400), 196L * 39920040L);
        SaleRounds spent = crowd(20, 20);
        due("spent", spent.takes(1, 2, 0), -2);
        for (int[] w : WRONG) {
            due("takes " + java.util.Arrays.toString(w), x.takes(w[0], w[1], w[2]), -1);
            due("takes of many " + java.util.Arrays.toString(w), spent.takes(w[0], w[1], w[2]), -1);
        }
    }

    private static void flowAnswers() {
        says("FLOW; NONE: no such ones.");
        SaleRounds x = ring(3, 0);
        due("the last firm, the first good", x.flow(2, 0), 1);
        due("the last good", x.flow(2, 1), 0);
        for (int wrong : new int[] {-1, 3, 12, MOST, LEAST}) {
            due("firm " + wrong, x.flow(wrong, 0), -1);
            due("good " + wrong, x.flow(0, wrong), -1);
            due("neither " + wrong, x.flow(wrong, wrong), -1);
        }
        due("good 2", x.flow(0, 2), -1);
        due("never spent", crowd(20, 20).flow(0, 0), 20);
    }

    private static void luckAnswers() {
        says("LUCK: how many of some draws; -2: SPENT (there, or in a draw); NONE: no such ones.");
        SaleRounds x = firms(2);
        SaleRounds spent = crowd(20, 20);
        due("one draw", x.luck(1, 2, 0, 0, 1), 1);
        due("ten draws", x.luck(0, 6, 400, MOST, 10), 10);
        for (int draws : new int[] {0, -1, 11, MOST, LEAST}) {
            due("draws " + draws, x.luck(1, 2, 0, 0, draws), -1);
            due("draws of many " + draws, spent.luck(1, 2, 0, 0, draws), -1);
        }
        for (int seed : new int[] {-1, -2, LEAST}) {
            due("seed " + seed, x.luck(1, 2, 0, seed, 1), -1);
            due("seed of many " + seed, spent.luck(1, 2, 0, seed, 1), -1);
        }
        for (int[] w : WRONG) {
            due("luck " + java.util.Arrays.toString(w), x.luck(w[0], w[1], w[2], 0, 1), -1);
            due("luck of many " + java.util.Arrays.toString(w), spent.luck(w[0], w[1], w[2], 0, 1), -1);
        }
        due("spent there", spent.luck(1, 2, 0, 0, 1), -2);
    }

    /** Sales of a ring told against their days: none is there, but a draw can make more than 200. */
    private static void spentInADraw() {
        SaleRounds x = firms(3);
        for (int i = 0; i < 39; i++) {
            sold(x, i % 3, (i + 1) % 3, 1, 1, 2 - i % 3);
        }
        due("none there", x.rounds(1, 6, 400), 0);
        int spentOnes = 0;
        for (int seed = 0; seed < 8; seed++) {
            long number = seed;
            boolean spent = false;
            for (int draws = 1; draws <= 10; draws++) {
                int[] to = new int[39];
                for (int i = 0; i < 39; i++) {
                    to[i] = (i + 1) % 3;
                }
                number = mix(to, number);
                int[][] sales = new int[3][3];
                for (int i = 0; i < 39; i++) {
                    sales[i % 3][to[i]]++;
                }
                int ab = sales[0][1] * sales[1][0];
                int ac = sales[0][2] * sales[2][0];
                int bc = sales[1][2] * sales[2][1];
                spent |= ab + ac + bc + sales[2][1] * sales[1][0] * sales[0][2] > 200;
                spentOnes += spent ? 1 : 0;
                due("seed " + seed + " draws " + draws, x.luck(1, 6, 400, seed, draws), spent ? -2 : draws);
            }
        }
        due("some of these are spent", spentOnes > 10 && spentOnes < 70 ? 1 : 0, 1);
        due("still none there", x.rounds(1, 6, 400), 0);
    }
}
