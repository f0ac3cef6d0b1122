/** Who knew, who is under one hand, papers that lack (==== 4.), and the promises 17 to 20. */
final class KnowBounds extends SaleRoundsChecks {
    private static final int LEAST = Integer.MIN_VALUE;
    private static final int MOST = Integer.MAX_VALUE;

    static void run() {
        soldAtLess();
        boughtFromMissing();
        inTwoRounds();
        missingBeside();
        underOneHand();
        mustAndMay();
        lackingPapers();
        signsAnswers();
        knewAnswers();
        lackingAnswers();
    }

    private static int sign(SaleRounds x, int firm, int bit) {
        return (x.signs(firm, 1, 6, 400) & bit) == 0 ? 0 : 1;
    }

    private static void soldAtLess() {
        says("SIGNS of a FIRM (bits): 1 it sold some GOOD at less than it bought that on the same DAY or ahead (any of these);");
        int[][] cases = {{50, 5, 0}, {49, 5, 1}, {49, 4, 0}, {49, 6, 1}, {50, 6, 0}, {51, 6, 0}, {1, 400, 1}, {1, 0, 0}};
        for (int[] c : cases) {
            SaleRounds x = firms(3);
            sold(x, 1, 2, 1, c[0], c[1]);
            sold(x, 0, 1, 1, 50, 5);
            due("sold at " + c[0] + " on day " + c[1], sign(x, 1, 1), c[2]);
            due("the one that only sold", sign(x, 0, 1), 0);
            due("the one that only bought", sign(x, 2, 1), 0);
        }
        SaleRounds x = firms(3);
        x.sell(0, 1, 1, 1, 50, 5, 0);
        sold(x, 1, 2, 1, 49, 5);
        due("of another good", sign(x, 1, 1), 0);
        x = firms(3);
        sold(x, 0, 1, 1, 10, 4);
        sold(x, 0, 1, 1, 50, 5);
        sold(x, 0, 1, 1, 20, 5);
        sold(x, 1, 2, 1, 60, 9);
        due("at more than all", sign(x, 1, 1), 0);
        sold(x, 1, 2, 1, 49, 5);
        due("at less than one of them", sign(x, 1, 1), 1);
        x.stop(7);
        due("those stopped have signs as well", sign(x, 1, 1), 1);
        x.undo();
        due("not once that sale is taken back", sign(x, 1, 1), 0);
        x = firms(3);
        sold(x, 1, 2, 1, 49, 5);
        sold(x, 0, 1, 1, 50, 5);
        x.undo();
        due("nor once what it bought is", sign(x, 1, 1), 0);
    }

    private static void boughtFromMissing() {
        says("2 it bought something, and all that from FIRMS that are MISSING or have bought from such;");
        // m owes; the others are in a land without a tax, and n in m's.
        SaleRounds x = made("land a 10;land b 0;good x;good y;firm m a 0;firm n a 0;firm o b 0;firm p b 0;firm q b 0;sale m n 1 x 9 day 9;");
        due("m alone is missing", x.count(7), 1);
        due("bought nothing", sign(x, 0, 2), 0);
        due("bought from a missing one", sign(x, 1, 2), 1);
        due("o bought nothing", sign(x, 2, 2), 0);
        x.sell(0, 2, 1, 1, 1, 400, 0);
        due("of another good, over a border", sign(x, 2, 2), 1);
        sold(x, 4, 2, 1, 1, 0);
        due("not all that", sign(x, 2, 2), 0);
        sold(x, 0, 4, 1, 1, 400);
        due("all, once that one bought from m", sign(x, 2, 2), 1);
        due("even if later than that", sign(x, 4, 2), 1);
        sold(x, 2, 3, 1, 1, 0);
        due("from one that bought from m", sign(x, 3, 2), 1);
        sold(x, 3, 1, 1, 1, 0);
        due("from m, and from one that bought from none such", sign(x, 1, 2), 0);
        x.pay(0, 1);
        due("no one is missing", x.count(7), 0);
        due("so from none such", sign(x, 2, 2), 0);
        x = made("land a 10;land b 0;good x;firm m a 0;firm n a 0;firm o b 0;sale m n 1 x 9 day 9;sale n m 1 x 1 day 9;sale n o 1 x 1 day 9;");
        due("a missing one that bought from its buyer", sign(x, 0, 2), 1);
        due("its buyer's buyer", sign(x, 2, 2), 1);
        x.rule(1);
        due("none is missing with the rule", sign(x, 2, 2), 0);
        x = made("land a 10;land b 0;good x;firm a b 0;firm b b 0;firm c b 0;firm d a 0;firm m a 0;sale m d 1 x 9 day 0;sale a b 1 x 9 day 0;");
        due("the last firm is missing", x.firm(4, 6), 1);
        due("from one that bought nothing", sign(x, 1, 2), 0);
        sold(x, 4, 2, 1, 1, 0);
        sold(x, 2, 1, 1, 1, 0);
        due("one of both is none such", sign(x, 1, 2), 0);
        sold(x, 4, 0, 1, 1, 0);
        due("both bought from the last firm", sign(x, 1, 2), 1);
        x.undo();
        due("one of them took that back", sign(x, 1, 2), 0);
    }

    private static void inTwoRounds() {
        says("4 it is in two ROUNDS at least (WAY, K, D told);");
        SaleRounds x = firms(4);
        due("in none", sign(x, 0, 4), 0);
        x.sell(0, 1, 1, 0, 1, 0, 1);
        x.sell(1, 0, 1, 0, 1, 5, 1);
        due("in one", sign(x, 0, 4), 0);
        x.sell(1, 2, 1, 0, 1, 5, 0);
        x.sell(2, 0, 1, 0, 1, 6, 0);
        due("a in two", sign(x, 0, 4), 1);
        due("b in two", sign(x, 1, 4), 1);
        due("c in one", sign(x, 2, 4), 0);
        due("d in none", sign(x, 3, 4), 0);
        due("by marks in one", x.signs(0, 0, 6, 400) & 4, 0);
        due("k 2: in one", x.signs(0, 1, 2, 400) & 4, 0);
        due("d 5: in one", x.signs(0, 1, 6, 5) & 4, 0);
        due("k 3, d 6: in two", x.signs(0, 1, 3, 6) & 4, 4);
        x.stop(4);
        due("one is stopped", sign(x, 0, 4), 0);
        x = firms(2);
        sold(x, 0, 1, 1, 1, 0);
        sold(x, 1, 0, 1, 1, 0);
        due("on one day a ring is two rows", sign(x, 0, 4), 1);
        due("and no other sign", x.signs(0, 1, 2, 0), 4);
    }

    private static void missingBeside() {
        says("8 another one that is MISSING is under its hand.");
        SaleRounds x = made("land a 10;good x;firm a a 0 hand 1;firm b a 0 hand 1 room 2;firm c a 0 room 2;firm d a 0 hand 2;firm e a 0;firm f a 0;");
        for (int firm = 0; firm < 6; firm++) {
            due("none is missing, " + firm, sign(x, firm, 8), 0);
        }
        sold(x, 0, 5, 1, 9, 0);
        int[] one = {0, 1, 1, 0, 0, 0};
        for (int firm = 0; firm < 6; firm++) {
            due("a is missing, " + firm, sign(x, firm, 8), one[firm]);
        }
        sold(x, 2, 5, 1, 9, 0);
        int[] two = {1, 1, 1, 0, 0, 0};
        for (int firm = 0; firm < 6; firm++) {
            due("a and c are missing, " + firm, sign(x, firm, 8), two[firm]);
        }
        sold(x, 4, 5, 1, 9, 0);
        due("e is under no hand", sign(x, 5, 8), 0);
        due("d neither with hand 2", sign(x, 3, 8), 0);
    }

    private static void underOneHand() {
        says("UNDER ONE HAND: FIRMS of one HAND or of one ROOM (not 0), and those joined by such.");
        SaleRounds x = made("land a 0;firm a a 0;firm b a 0;firm c a 0 hand 5;firm d a 0 room 5;firm e a 0 room 6 hand 7;firm f a 0 hand 6 room 7;");
        for (int firm = 0; firm < 6; firm++) {
            due("alone, " + firm, x.firm(firm, 7), firm);
        }
        due("six parties", x.hands(), 6);
        x = made("land a 0;firm a a 0 hand 1;firm b a 0 room 99;firm c a 0 hand 99;firm d a 0 hand 99 room 1;firm e a 0 hand 1 room 99;firm f a 0 room 1;firm g a 0;");
        int[] least = {0, 0, 2, 2, 0, 2, 6};
        for (int firm = 0; firm < 7; firm++) {
            due("least of " + firm, x.firm(firm, 7), least[firm]);
        }
        due("three parties", x.hands(), 3);
        // A long chain, told so that its ends meet last.
        x = made("land a 0;firm a a 0 hand 1;firm b a 0 hand 2;firm c a 0 hand 3;firm d a 0 hand 4;firm e a 0 hand 3 room 3;firm f a 0 hand 4 room 3;"
            + "firm g a 0 hand 1 room 1;firm h a 0 hand 2 room 1;firm i a 0 hand 9;firm j a 0 hand 9;firm k a 0 room 4;firm l a 0 room 4 hand 2;");
        int[] chain = {0, 0, 2, 2, 2, 2, 0, 0, 8, 8, 0, 0};
        for (int firm = 0; firm < 12; firm++) {
            due("chain of " + firm, x.firm(firm, 7), chain[firm]);
        }
        due("parties of the chain", x.hands(), 3);

        says("How many parties there are (FIRMS UNDER ONE HAND one party).");
        due("no firms", new SaleRounds().hands(), 0);
        due("one firm", made("land a 0;firm a a 0 hand 1;").hands(), 1);
        due("two of one hand", made("land a 0;firm a a 0 hand 99;firm b a 0 hand 99;").hands(), 1);
        due("two of one room", made("land a 0;firm a a 0 room 1;firm b a 0 room 1;").hands(), 1);
        due("two without", made("land a 0;firm a a 0;firm b a 0;").hands(), 2);
        due("twelve alone", firms(12).hands(), 12);
        x = made("land a 0;firm a a 0 hand 1;firm b a 0 hand 1;");
        tell(x, "land a 0;firm a a 0;firm b a 0;firm c a 0;");
        due("a new book's parties", x.hands(), 3);
        tell(x, "");
        due("none in an empty book", x.hands(), 0);
    }

    /** a is missing; b: 2 and 8; c: 1 and 2; d: none; e bought from d, sold below: 1. */
    private static SaleRounds signed() {
        return made("land a 10;land b 0;good x;firm a a 0 hand 1;firm b a 0 hand 1;firm c b 0;firm d b 0;firm e b 0;"
            + "sale a b 1 x 9 day 0;sale b c 1 x 9 day 0;sale c d 1 x 8 day 0;sale d e 1 x 9 day 0;sale e d 1 x 8 day 1;");
    }

    private static void mustAndMay() {
        says("MUST by SIGNS (bits): FIRMS that aren't MISSING and have all of these; MAY: that aren't and have one at least.");
        SaleRounds x = signed();
        int[] signs = {0, 10, 3, 0, 1};
        for (int firm = 0; firm < 5; firm++) {
            due("signs of " + firm, x.signs(firm, 1, 2, 0), signs[firm]);
        }
        for (int told = 1; told <= 15; told++) {
            int must = 0;
            int may = 0;
            for (int firm = 1; firm < 5; firm++) {
                must |= (signs[firm] & told) == told ? 1 << firm : 0;
                may |= (signs[firm] & told) != 0 ? 1 << firm : 0;
            }
            due("must by " + told, x.knew(told, 1, 2, 0, 0), must);
            due("may by " + told, x.knew(told, 1, 2, 0, 1), may);
        }
        due("must by 2 and 8", x.knew(10, 1, 2, 0, 0), bits(1));
        due("may by 1 and 8", x.knew(9, 1, 2, 0, 1), bits(1, 2, 4));
        x = made("land a 0;good x;firm a a 0;firm b a 0;sale b a 1 x 9 day 0;sale a b 1 x 8 day 0;");
        due("the first firm must", x.knew(1, 1, 2, 0, 0), bits(0));
        due("the first firm may", x.knew(3, 1, 2, 0, 1), bits(0));
        due("both by their rounds", x.knew(4, 1, 2, 0, 0), bits(0, 1));
        // A missing firm with signs: b sells on to a at less and owes more than it paid.
        x = firms(3);
        sold(x, 0, 1, 1, 9, 0);
        sold(x, 1, 2, 2, 8, 0);
        due("b is missing", x.firm(1, 6), 1);
        due("b has signs", x.signs(1, 1, 2, 0), 3);
        due("but is none that must have known", x.knew(1, 1, 2, 0, 0), 0);
        due("nor may it", x.knew(3, 1, 2, 0, 1), bits(2));
        x.pay(1, 1);
        due("once it has paid, it must", x.knew(3, 1, 2, 0, 0), bits(1));
    }

    private static void lackingPapers() {
        says("LACKING of a MARK: of its SALES by DAYS (of one DAY by numbers), how many don't go on from the FIRM to which the one ahead came.");
        SaleRounds x = firms(4);
        due("no sales", x.lacking(1), 0);
        x.sell(1, 2, 1, 0, 1, 5, 1);
        due("one sale", x.lacking(1), 0);
        x.sell(0, 1, 1, 0, 1, 4, 1);
        due("one ahead of it", x.lacking(1), 0);
        x.sell(2, 3, 1, 1, 1, 6, 1);
        due("one behind it, of another good", x.lacking(1), 0);
        x.sell(3, 0, 1, 0, 1, 6, 1);
        due("one of the same day, by numbers", x.lacking(1), 0);
        x.sell(2, 0, 1, 0, 1, 400, 1);
        due("one that does not go on", x.lacking(1), 1);
        x.sell(3, 1, 1, 0, 1, 0, 1);
        due("ahead of all: now a does not go on", x.lacking(1), 2);
        x.undo();
        x.sell(3, 0, 1, 0, 1, 0, 1);
        due("ahead of all, to a", x.lacking(1), 1);
        x.stop(15);
        due("those stopped as well", x.lacking(1), 1);
        x = firms(4);
        x.sell(1, 2, 1, 0, 1, 5, 7);
        x.sell(0, 1, 1, 0, 1, 5, 7);
        due("of one day told the other way", x.lacking(7), 1);
        x.sell(3, 0, 1, 0, 1, 5, 8);
        x.sell(3, 0, 1, 0, 1, 5, 0);
        due("other marks and none do not count", x.lacking(7), 1);
        due("of the other mark", x.lacking(8), 0);
        x = firms(4);
        for (int i = 0; i < 40; i++) {
            x.sell(0, 1, 1, 0, 1, 40 - i, 99);
        }
        due("all but the first", x.lacking(99), 39);
    }

    private static SaleRounds crowd() {
        SaleRounds x = firms(2);
        for (int i = 0; i < 22; i++) {
            x.sell(i % 2, 1 - i % 2, 1, 0, 1, 0, 1);
        }
        return x;
    }

    private static final int[][] WRONG = {{-1, 2, 0}, {2, 2, 0}, {0, 1, 0}, {1, 7, 0}, {0, 2, -1}, {1, 2, 401}, {MOST, 2, 0}, {0, LEAST, 0}, {0, 2, MOST}};

    private static void signsAnswers() {
        says("SIGNS of a FIRM; -2, NONE likewise.");
        SaleRounds x = signed();
        SaleRounds spent = crowd();
        due("the last firm", x.signs(4, 0, 6, 400), 1);
        due("spent", spent.signs(0, 1, 2, 0), -2);
        due("spent by marks", spent.signs(1, 0, 6, 400), -2);
        for (int firm : new int[] {-1, 5, 12, MOST, LEAST}) {
            due("signs of " + firm, x.signs(firm, 1, 2, 0), -1);
            due("signs of many, " + firm, spent.signs(firm, 1, 2, 0), -1);
        }
        for (int[] w : WRONG) {
            due("signs " + java.util.Arrays.toString(w), x.signs(0, w[0], w[1], w[2]), -1);
            due("signs of many " + java.util.Arrays.toString(w), spent.signs(0, w[0], w[1], w[2]), -1);
        }
    }

    private static void knewAnswers() {
        says("MUST (what 0), MAY (1) by SIGNS (1 .. 15): bits of FIRMS; -2, NONE likewise.");
        SaleRounds x = signed();
        SaleRounds spent = crowd();
        due("by 1", x.knew(1, 1, 2, 0, 0), bits(2, 4));
        due("by 15", x.knew(15, 1, 2, 0, 0), 0);
        due("spent", spent.knew(1, 1, 2, 0, 0), -2);
        due("spent, even without sign 4", spent.knew(2, 1, 2, 0, 1), -2);
        for (int signs : new int[] {0, -1, 16, 17, MOST, LEAST}) {
            due("by signs " + signs, x.knew(signs, 1, 2, 0, 0), -1);
            due("of many by signs " + signs, spent.knew(signs, 1, 2, 0, 1), -1);
        }
        for (int what : new int[] {-1, 2, MOST, LEAST}) {
            due("what " + what, x.knew(1, 1, 2, 0, what), -1);
            due("of many, what " + what, spent.knew(1, 1, 2, 0, what), -1);
        }
        for (int[] w : WRONG) {
            due("knew " + java.util.Arrays.toString(w), x.knew(1, w[0], w[1], w[2], 0), -1);
            due("knew of many " + java.util.Arrays.toString(w), spent.knew(1, w[0], w[1], w[2], 1), -1);
        }
    }

    private static void lackingAnswers() {
        says("LACKING; NONE: no such MARK (1 .. 99).");
        SaleRounds x = firms(3);
        x.sell(0, 1, 1, 0, 1, 0, 0);
        x.sell(0, 1, 1, 0, 1, 0, 0);
        for (int mark : new int[] {0, -1, 100, 101, MOST, LEAST}) {
            due("mark " + mark, x.lacking(mark), -1);
        }
        due("mark 1", x.lacking(1), 0);
        due("mark 99", x.lacking(99), 0);
    }
}
