import java.util.Arrays;

/** The text: its grammar, limits and faults, and the promises by which it comes in, 1 to 5. */
final class TextBounds extends SaleRoundsChecks {
    private static final String HEAD = "land a 1;good x;firm p a 3;firm q a 5;";
    private static final int H = HEAD.length();
    private static final String[] LANGUAGE = {"land", "good", "firm", "hand", "room", "sale", "day", "mark", "paid"};
    private static final String[] LINES = {"land b 1", "good y", "firm r a 0", "firm r a 0 hand 1", "firm r a 0 room 2",
        "firm r a 0 hand 1 room 2", "firm r a 0 room 2 hand 1", "sale p q 1 x 1 day 5", "sale p q 1 x 1 day 5 mark 1", "paid p 1"};

    static void run() {
        lines();
        words();
        numbersAndBlanks();
        landsAndGoods();
        firmLimits();
        saleLimits();
        firstFault();
        cannotStand();
        tooMuch();
        toldAlready();
        notTold();
        newObject();
        feeding();
        booking();
        refusedBooks();
        faulting();
        naming();
    }

    private static boolean isNumber(String token) {
        return Character.isDigit(token.charAt(0));
    }

    private static String joined(String[] tokens, int many) {
        return String.join(" ", Arrays.copyOf(tokens, many));
    }

    private static void lines() {
        says("A BOOK, a TEXT: { LINE ';' }.");
        fine("", 0);
        fine(" \n", 0);
        fine("good a;", 1);
        fine("good a;good b;", 2);
        faulty(";", 1, 0);
        faulty("good a;;", 1, 7);
        faulty("good a", 1, 6);
        faulty("good a;good b", 1, 13);
        faulty("good a good b;", 1, 7);

        says("LINE: land W N | good W | firm W W N { hand N | room N } | sale W W N W N day N [ mark N ] | paid W N.");
        for (String line : LINES) {
            fine(HEAD + line + ";", 5);
            String[] tokens = line.split(" ");
            for (int i = 1; i <= tokens.length; i++) {
                String cut = HEAD + joined(tokens, i);
                faulty(cut, 1, cut.length());
                if (!Arrays.asList(LINES).contains(joined(tokens, i))) {
                    faulty(cut + ";", 1, cut.length());
                }
            }
            for (int i = 0; i < tokens.length; i++) {
                String ahead = HEAD + joined(tokens, i) + " ";
                String behind = " " + String.join(" ", Arrays.copyOfRange(tokens, i + 1, tokens.length)) + ";";
                boolean mayEnd = Arrays.asList(LINES).contains(joined(tokens, i));
                faulty(ahead + ";" + behind, 1, ahead.length() + (mayEnd ? 2 : 0));
                faulty(ahead + "!" + behind, 1, ahead.length());
                boolean name = !isNumber(tokens[i]) && !Arrays.asList(LANGUAGE).contains(tokens[i]);
                faulty(ahead + (name ? "7" : "z") + behind, 1, ahead.length());
                faulty(ahead + (isNumber(tokens[i]) ? "mark" : "7") + behind, 1, ahead.length());
            }
            for (String more : new String[] {"z", "7", "day", "sale"}) {
                faulty(HEAD + line + " " + more + " 1;", 1, H + line.length() + 1);
            }
        }
        for (String word : new String[] {"hand", "room", "day", "mark", "x", "abcdef"}) {
            faulty(word + " 1;", 1, 0);
            faulty(HEAD + word + ";", 1, H);
        }
        faulty(HEAD + "sale p q 1 x 1 mark 1 day 5;", 1, H + 15);
        faulty(HEAD + "sale p q 1 x 1 day 5 mark 1 mark 1;", 1, H + 28);
        faulty(HEAD + "sale p q 1 x 1 day 5 day 5;", 1, H + 21);
        faulty(HEAD + "firm r a 0 mark 1;", 1, H + 11);
        faulty(HEAD + "sale p q 1 x 1 day 5 hand 1;", 1, H + 21);
    }

    private static void words() {
        says("Words: small letters in a row; W: one of 1 .. 6 letters, none of those of the language;");
        SaleRounds x = fine("good abcdef;good ghijkl;good mnopqr;good stuvwx;land yz 0;firm a yz 0;", 6);
        due("all letters", x.named(1, packed("stuvwx")), 3);
        due("the last letters", x.named(0, packed("yz")), 0);
        for (String sign : new String[] {"A", "Z", "`", "{", "_", "" + (char) 225, "" + (char) 250}) {
            faulty("good " + sign + ";", 1, 5);
            faulty("good a" + sign + ";", 1, 6);
        }
        faulty("good a b;", 1, 7);
        faulty("goodx;", 1, 0);
        faulty("good abcdefg;", 1, 5);
        faulty("good abcdef abcdef;", 1, 12);
        faulty("good " + "a".repeat(200) + ";", 1, 5);
        for (String word : LANGUAGE) {
            faulty("land " + word + " 1;", 1, 5);
            faulty("good " + word + ";", 1, 5);
            faulty(HEAD + "firm " + word + " a 0;", 1, H + 5);
            faulty(HEAD + "firm r " + word + " 0;", 1, H + 7);
            faulty(HEAD + "sale " + word + " q 1 x 1 day 5;", 1, H + 5);
            faulty(HEAD + "sale p " + word + " 1 x 1 day 5;", 1, H + 7);
            faulty(HEAD + "sale p q 1 " + word + " 1 day 5;", 1, H + 11);
            faulty(HEAD + "paid " + word + " 1;", 1, H + 5);
            fine("good " + word + "s;", 1);
            fine("good " + word.substring(1) + ";", 1);
            fine("good " + word.substring(0, word.length() - 1) + ";", 1);
        }
    }

    private static void numbersAndBlanks() {
        says("N: digits.");
        for (int digit = 0; digit < 10; digit++) {
            SaleRounds x = fine("land a " + digit + ";good x;firm p a 0;firm q a 0;sale p q 1 x 1 day 0;", 5);
            due("tax of " + digit, x.look(0, 7), digit);
        }
        for (String sign : new String[] {"/", ":", "-", "+", ".", "'", "" + (char) 178}) {
            faulty("land a " + sign + "1;", 1, 7);
            faulty("land a 1" + sign + ";", 1, 8);
        }
        faulty("land a 1 2;", 1, 9);
        faulty("land a 1x;", 1, 8);
        fine("land a " + "0".repeat(300) + "40;", 1);
        faulty("land a " + "0".repeat(300) + "41;", 2, 7);
        // Too many digits for an int or a long, with small numbers in their lower bits.
        for (String high : new String[] {"4294967297", "2147483648", "18446744073709551617", "1" + "0".repeat(300)}) {
            faulty("land a " + high + ";", 2, 7);
            faulty(HEAD + "paid p " + high + ";", 2, H + 7);
        }

        says("Blanks 10, 32.");
        for (int sign = 0; sign < 256; sign++) {
            boolean token = sign >= 'a' && sign <= 'z' || sign >= '0' && sign <= '9' || sign == ';';
            if (sign == 10 || sign == 32) {
                fine("good" + (char) sign + "a" + (char) sign + ";" + (char) sign, 1);
            } else if (!token) {
                faulty("good" + (char) sign + "a;", 1, 4);
                faulty("good a;" + (char) sign, 1, 7);
            }
        }
        fine(" \n \n good\n\n  a \n;  \n", 1);
        fine("land a1;good x;firm p a0hand2room3;firm q a0;sale p q1x1day0mark9;paid p0;", 6);
    }

    private static void landsAndGoods() {
        says("LANDS, at most 5, with a TAX 0 .. 40 of 100;");
        String five = "land a 0;land b 40;land c 1;land d 2;land e 3;";
        due("five lands", fine(five, 5).count(0), 5);
        faulty(five + "land f 4;", 2, five.length());
        faulty("land a 41;", 2, 7);
        SaleRounds x = made("land a 0;land b 40;good x;firm p a 0;firm q a 0;firm r b 0;firm s b 0;sale p q 1 x 100 day 0;sale r s 1 x 100 day 0;");
        due("tax of 0", x.look(0, 7), 0);
        due("tax of 40", x.look(1, 7), 4000);

        says("GOODS, at most 4;");
        String four = "good a;good b;good c;good d;";
        due("four goods", fine(four, 4).count(1), 4);
        faulty(four + "good e;", 2, four.length());

        says("each numbered as they come, with names of their own (a LAND and a GOOD may be called alike).");
        x = fine("land b 0;good b;land a 0;good a;firm b a 0;firm a b 0;", 6);
        for (int what = 0; what < 3; what++) {
            due("b is the first of its kind " + what, x.named(what, packed("b")), 0);
            due("a is the second of its kind " + what, x.named(what, packed("a")), 1);
        }
        due("land of b", x.firm(0, 0), 1);
        due("land of a", x.firm(1, 0), 0);
        faulty("land a 0;land a 0;", 3, 14);
        faulty("good a;good a;", 3, 12);
        faulty("land a 0;firm b a 0;firm b a 0;", 3, 25);
        fine("land abcdef 0;land abcde 0;land abcdeg 0;land bcdef 0;", 4);
    }

    private static void firmLimits() {
        says("FIRMS, at most 12 (name, LAND, since a DAY 0 .. 400; a HAND, a ROOM 1 .. 99, each once at most, in whatever order; 0 without):");
        StringBuilder twelve = new StringBuilder("land a 0;");
        for (int i = 0; i < 12; i++) {
            twelve.append("firm ").append((char) ('a' + i)).append(" a 0;");
        }
        SaleRounds x = fine(twelve.toString(), 13);
        due("twelve firms", x.count(2), 12);
        due("the last one", x.named(2, packed("l")), 11);
        faulty(twelve + "firm m a 0;", 2, twelve.length());
        x = fine("land a 0;firm p a 0;firm q a 400 hand 1 room 99;firm r a 1 room 1 hand 99;firm s a 2 room 5;firm t a 2 hand 5;", 6);
        int[][] due = {{0, 0, 0}, {400, 1, 99}, {1, 99, 1}, {2, 0, 5}, {2, 5, 0}};
        for (int firm = 0; firm < 5; firm++) {
            for (int what = 1; what <= 3; what++) {
                due("firm " + firm + " what " + what, x.firm(firm, what), due[firm][what - 1]);
            }
        }
        faulty("land a 0;firm p a 401;", 2, 18);
        for (String tie : new String[] {"hand", "room"}) {
            faulty("land a 0;firm p a 0 " + tie + " 0;", 2, 25);
            faulty("land a 0;firm p a 0 " + tie + " 100;", 2, 25);
            faulty("land a 0;firm p a 0 " + tie + " 1 " + tie + " 1;", 3, 27);
            faulty("land a 0;firm p a 0 hand 1 room 1 " + tie + " 2;", 3, 34);
        }
    }

    private static void saleLimits() {
        says("sale: a SALE (at most 30 in the BOOK): from a FIRM to another one, NUMBER 1 .. 999, of a GOOD, PRICE each 1 .. 999, DAY 0 .. 400, MARK 1 .. 99 (0 without).");
        StringBuilder thirty = new StringBuilder(HEAD);
        for (int i = 0; i < 30; i++) {
            thirty.append("sale p q ").append(i + 1).append(" x 1 day 5;");
        }
        SaleRounds x = fine(thirty.toString(), 34);
        due("thirty sales", x.count(3), 30);
        due("the last one", x.look(29, 2), 30);
        faulty(thirty + "sale p q 1 x 1 day 5;", 2, thirty.length());
        x = fine("land a 1;good x;good y;firm p a 0;firm q a 0;sale q p 1 y 1 day 0 mark 1;sale p q 999 x 999 day 400 mark 99;sale p q 2 x 3 day 4;", 8);
        int[][] due = {{1, 0, 1, 1, 1, 0, 1}, {0, 1, 999, 0, 999, 400, 99}, {0, 1, 2, 0, 3, 4, 0}};
        for (int sale = 0; sale < 3; sale++) {
            for (int what = 0; what < 7; what++) {
                due("sale " + sale + " what " + what, x.look(sale, what), due[sale][what]);
            }
        }
        faulty(HEAD + "sale p p 1 x 1 day 5;", 3, H + 7);
        faulty(HEAD + "sale p q 0 x 1 day 5;", 2, H + 9);
        faulty(HEAD + "sale p q 1000 x 1 day 5;", 2, H + 9);
        faulty(HEAD + "sale p q 1 x 0 day 5;", 2, H + 13);
        faulty(HEAD + "sale p q 1 x 1000 day 5;", 2, H + 13);
        faulty(HEAD + "sale p q 1 x 1 day 401;", 2, H + 19);
        faulty(HEAD + "sale p q 1 x 1 day 5 mark 0;", 2, H + 26);
        faulty(HEAD + "sale p q 1 x 1 day 5 mark 100;", 2, H + 26);

        says("paid: what a FIRM has PAID in 0 .. 999999 (0 without).");
        x = fine("land a 1;firm p a 0;firm q a 0;firm r a 0;paid q 999999;paid r 0;", 6);
        due("without", x.firm(0, 5), 0);
        due("the most", x.firm(1, 5), 99999900);
        due("nothing", x.firm(2, 5), 0);
        faulty(HEAD + "paid p 1000000;", 2, H + 7);
    }

    private static void firstFault() {
        says("FAULTS, the first along the text (of one place the least), with its place:");
        String[] bad = {"good !;", "land b 41;", "good x;", "paid z 1;", "sale p q 1 x 1 day 4;"};
        int[] at = {5, 7, 5, 5, 19};
        for (int a = 0; a < 5; a++) {
            faulty(HEAD + bad[a], a + 1, H + at[a]);
            for (int b = 0; b < 5; b++) {
                faulty(HEAD + bad[a] + bad[b], a + 1, H + at[a]);
                faulty(HEAD + "good y;\n" + bad[a] + bad[b], a + 1, H + 8 + at[a]);
            }
        }
        faulty("land a 41 !", 2, 7);
        faulty("land ! 41;", 1, 5);
        // What can't stand there might be too much, told already or not told besides: 1 is the least.
        faulty("good 99999999999;", 1, 5);
        faulty("good x;good x x;", 3, 12);
        faulty(HEAD + "good y y;", 1, H + 7);
        faulty(HEAD + "good y z;", 1, H + 7);
        faulty(HEAD + "paid p p;", 1, H + 7);
        faulty(HEAD + "paid p 1 1000000;", 1, H + 9);
        faulty(HEAD + "sale p q q 1 x 1 day 5;", 1, H + 9);
        faulty(HEAD + "sale p 1000 1 x 1 day 5;", 1, H + 7);
        faulty(HEAD + "sale p q 1 x 1 401;", 1, H + 15);
        faulty(HEAD + "sale p q 1 x 1 day 5 hand 1 hand 1;", 1, H + 21);
        faulty("land a 0;land b 0;land c 0;land d 0;land e 0;good land 0;", 1, 50);
        faulty("good a;good b;good c;good d;land good 0;", 1, 33);
        faulty(HEAD + "sale z z 0 z 0 day 401 mark 0;", 4, H + 5);
        faulty(HEAD + "sale p p 0 z 0 day 401 mark 0;", 3, H + 7);
        faulty(HEAD + "sale p q 0 z 0 day 401 mark 0;", 2, H + 9);
        faulty(HEAD + "sale p q 1 z 0 day 401 mark 0;", 4, H + 11);
        faulty(HEAD + "sale p q 1 x 0 day 401 mark 0;", 2, H + 13);
        faulty(HEAD + "sale p q 1 x 1 day 401 mark 0;", 2, H + 19);
        faulty(HEAD + "sale p q 1 x 1 day 4 mark 0;", 5, H + 19);
        faulty(HEAD + "sale p q 1 x 1 day 5 mark 0 !", 2, H + 26);
        faulty(HEAD + "sale p q 1 x 1 day 5 mark 1 !", 1, H + 28);

        says("5 a SALE's DAY ahead of that since when one of its FIRMS is (at N).");
        fine(HEAD + "sale p q 1 x 1 day 5;", 5);
        fine(HEAD + "sale q p 1 x 1 day 5;", 5);
        faulty(HEAD + "sale p q 1 x 1 day 4;", 5, H + 19);
        faulty(HEAD + "sale q p 1 x 1 day 4;", 5, H + 19);
        faulty(HEAD + "sale p q 1 x 1 day   0", 5, H + 21);
        fine("land a 1;good x;firm p a 400;firm q a 400;sale p q 1 x 1 day 400;", 5);
        faulty("land a 1;good x;firm p a 400;firm q a 0;sale q p 1 x 1 day 399;", 5, 59);
    }

    private static void cannotStand() {
        says("1 a TOKEN that is none (a word of more than 6 letters, too) or can't stand there (the length, if more must come).");
        faulty("!", 1, 0);
        faulty(" !", 1, 1);
        faulty("landabc a 1;", 1, 0);
        faulty("land a abcdefg;", 1, 7);
        faulty("land a 1 abcdefg;", 1, 9);
        faulty("land a 1;abcdefg", 1, 9);
        faulty("land a 1;firm p a 0 handhand 3;", 1, 20);
        faulty("landlandland", 1, 0);
        faulty("good a;good abcdefg;", 1, 12);
        faulty("land", 1, 4);
        faulty("land  ", 1, 6);
        faulty("land a 1 \n ", 1, 11);
        faulty("land a 1;firm", 1, 13);
        faulty("land a 1;firm p a 0 hand", 1, 24);
        faulty("land a 1;firm p a 0 hand 3", 1, 26);
        // The tape goes on behind the text, which is no part of it.
        SaleRounds x = new SaleRounds();
        feed(x, "land a 10;good bb;  ");
        due("a text cut within a line", x.book(7), -1);
        due("its fault", x.fault(0), 1);
        due("its place", x.fault(1), 7);
        feed(x, "land a 10;good bb;  ");
        due("a text cut within a number", x.book(8), -1);
        due("its place", x.fault(1), 8);
        feed(x, "land a 10;good bb;  ");
        due("a text cut within a name", x.book(16), -1);
        due("its place", x.fault(1), 16);
        feed(x, "land a 10;good bb;  ");
        due("a text cut within a line's word", x.book(13), -1);
        due("its place", x.fault(1), 10);
        StringBuilder full = new StringBuilder("good a");
        full.append(" ".repeat(800 - full.length()));
        faulty(full.toString(), 1, 800);
        full.setCharAt(799, ';');
        fine(full.toString(), 1);
        full.setCharAt(799, '!');
        faulty(full.toString(), 1, 799);
    }

    private static void tooMuch() {
        says("2 too much (at it): a number beyond what is said, a sixth land, fifth good, 13th firm, 31st sale (at the word of its LINE).");
        faulty("land a   41;", 2, 9);
        faulty("land a 1;firm p a 0 room 1 hand   100;", 2, 34);
        String five = "land a 0;land b 0;land c 0;land d 0;land e 0;";
        faulty(five + " land", 2, five.length() + 1);
        faulty(five + "land a 0;", 2, five.length());
        faulty(five + "land ;", 2, five.length());
        faulty(five + "landx", 1, five.length());
        fine(five + "good a;", 6);
        String four = "good a;good b;good c;good d;";
        faulty(four + "\ngood", 2, four.length() + 1);
        faulty(four + "good a;", 2, four.length());
        fine(four + "land a 0;", 5);
        StringBuilder firms = new StringBuilder("land a 0;good x;");
        for (int i = 0; i < 12; i++) {
            firms.append("firm ").append((char) ('a' + i)).append(" a 0;");
        }
        faulty(firms + "firm", 2, firms.length());
        faulty(firms + "firm a a 0;", 2, firms.length());
        faulty(firms + "firm !", 2, firms.length());
        StringBuilder sales = new StringBuilder(HEAD);
        for (int i = 0; i < 30; i++) {
            sales.append("sale p q 1 x 1 day 5;");
        }
        faulty(sales + "sale", 2, sales.length());
        faulty(sales + "sale z z 0", 2, sales.length());
        fine(sales + "paid p 1;", 35);
        faulty(sales + "salex", 1, sales.length());
    }

    private static void toldAlready() {
        says("3 told already: a name of its kind (at W), hand, room (at the word), a FIRM's paid (at W), a SALE to whom it is from (at the second W).");
        faulty("land a 1;land   a", 3, 16);
        faulty("land a 1;land a 41;", 3, 14);
        faulty("good a;good b;good a", 3, 19);
        faulty(HEAD + "firm p z 401;", 3, H + 5);
        faulty(HEAD + "firm q", 3, H + 5);
        faulty(HEAD + "firm r a 0 hand 1 hand", 3, H + 18);
        faulty(HEAD + "firm r a 0 room 1 room !", 3, H + 18);
        faulty(HEAD + "firm r a 0 room 1 hand 1 room 100;", 3, H + 25);
        faulty(HEAD + "paid p 1;paid p", 3, H + 14);
        faulty(HEAD + "paid p 0;paid q 0;paid p 0;", 3, H + 23);
        faulty(HEAD + "paid p 5;paid p !", 3, H + 14);
        faulty(HEAD + "sale q   q", 3, H + 9);
        fine(HEAD + "firm r a 0 hand 1;firm s a 0 hand 1 room 1;firm t a 0 room 1;paid p 1;paid q 1;", 9);
        fine(HEAD + "sale p q 1 x 1 day 5;sale p q 1 x 1 day 5;", 6);
    }

    private static void notTold() {
        says("4 a LAND, GOOD or FIRM that isn't told ahead (at W).");
        faulty("firm p a 0;land a 1;", 4, 7);
        faulty("good a;firm p a 0;", 4, 14);
        faulty("land a 0;firm p p 0;", 4, 16);
        faulty("land a 0;firm p b", 4, 16);
        faulty(HEAD + "sale p q 1 y 1 day 5;good y;", 4, H + 11);
        faulty(HEAD + "sale p q 1 a 1 day 5;", 4, H + 11);
        faulty(HEAD + "sale p q 1 p 1 day 5;", 4, H + 11);
        faulty(HEAD + "sale r q 1 x 1 day 5;firm r a 0;", 4, H + 5);
        faulty(HEAD + "sale a q 1 x 1 day 5;", 4, H + 5);
        faulty(HEAD + "sale p r", 4, H + 7);
        faulty(HEAD + "sale p x 1 x 1 day 5;", 4, H + 7);
        faulty(HEAD + "paid r 0;firm r a 0;", 4, H + 5);
        faulty(HEAD + "paid a", 4, H + 5);
        // What an earlier book has told isn't told in the next one.
        SaleRounds x = made(HEAD);
        due("told by the book ahead", tell(x, "firm r a 0;"), -1);
        due("its fault", x.fault(0), 4);
        due("its place", x.fault(1), 7);
        // Nor what two faulty ones have told, nor the book ahead of the one ahead.
        String much = "land b 1;good y;firm a b 0 hand 1 room 2;firm b b 0 hand 1;sale a b 1 y 1 day 0;paid a 5;";
        due("one of each", tell(x, much), 6);
        x.sell(0, 1, 1, 0, 1, 0, 0);
        due("the same once more", tell(x, much), 6);
        x.sell(0, 1, 1, 0, 1, 0, 0);
        due("faulty", tell(x, much + "!"), -1);
        due("faulty again", tell(x, much + "!"), -1);
        due("one that tells less", tell(x, "land b 1;good y;firm a b 0;firm b b 0;"), 4);
        due("lands", x.count(0), 1);
        due("goods", x.count(1), 1);
        due("firms", x.count(2), 2);
        due("sales", x.count(3), 0);
        due("told by sell", x.count(4), 0);
        due("nothing to take back", x.undo(), -1);
        due("no hand", x.firm(0, 2), 0);
        due("no room", x.firm(0, 3), 0);
        due("nothing paid", x.firm(0, 5), 0);
        due("two parties", x.hands(), 2);
        due("paid can be told again", tell(x, "land b 1;firm a b 0;paid a 6;"), 3);
        due("and again", tell(x, "land b 1;firm a b 0;paid a 7;"), 3);
        due("and again, once more", tell(x, "land b 1;firm a b 0;paid a 8;"), 3);
        due("paid", x.firm(0, 5), 800);
    }

    private static void newObject() {
        says("No BOOK, none STOPPED, the RULE nowhere; an empty TAPE.");
        SaleRounds x = new SaleRounds();
        for (int what = 0; what < 8; what++) {
            due("count " + what, x.count(what), 0);
        }
        due("empty tape", x.book(1), -2);
        due("no fault", x.fault(0), 0);
        due("no place", x.fault(1), -1);
        for (int what = 0; what < 3; what++) {
            due("nothing is named", x.named(what, 0), -1);
        }
        due("look", thrown(x, 0, 0), 1);
        due("firm", x.firm(0, 0), Integer.MIN_VALUE);
        due("sell", x.sell(0, 1, 1, 0, 1, 0, 0), -1);
        due("undo", x.undo(), -1);
        due("pay", x.pay(0, 0), -1);
        due("rounds", x.rounds(0, 2, 0), 0);
        due("round", x.round(0, 2, 0, 0, 0), -1);
        due("judge", x.judge(1, 2, 0), -1);
        due("takes", x.takes(1, 6, 400), 0);
        due("flow", x.flow(0, 0), -1);
        due("luck", x.luck(1, 6, 400, 0, 10), 10);
        due("signs", x.signs(0, 1, 6, 400), -1);
        due("must", x.knew(1, 1, 6, 400, 0), 0);
        due("may", x.knew(15, 1, 6, 400, 1), 0);
        due("hands", x.hands(), 0);
        due("lacking", x.lacking(1), 0);
        due("stop none", x.stop(0), 0);
        due("stop one", x.stop(1), -1);
        due("fewest", x.fewest(1, 6, 400, 0), 0);
        due("rule in none", x.rule(0), 0);
        due("rule in one", x.rule(1), -1);
        due("burden", x.burden(0), -1);
        for (int what = 0; what < 3; what++) {
            due("starve", x.starve(1, 6, 400, 0, what), 0);
        }
        due("the first twenty", x.feed(0, 0, 0, 0, 0), 20);
    }

    private static void feeding() {
        says("Twenty bytes come behind the TAPE, four of each number, the highest first: how many it has;");
        for (int place = 0; place < 20; place++) {
            // A byte whose highest bit is set, among blanks: a sign must not spread to the bytes beside it.
            int[] five = {0x20202020, 0x20202020, 0x20202020, 0x20202020, 0x20202020};
            int shift = 24 - 8 * (place % 4);
            five[place / 4] = five[place / 4] & ~(255 << shift) | 0xff << shift;
            SaleRounds x = new SaleRounds();
            due("blanks ahead", x.feed(0x20202020, 0x20202020, 0x20202020, 0x20202020, 0x20202020), 20);
            due("one byte", x.feed(five[0], five[1], five[2], five[3], five[4]), 40);
            due("as a text", x.book(40), -1);
            due("its place", x.fault(1), 20 + place);
        }
        SaleRounds x = new SaleRounds();
        due("good abcdef;good gh;", x.feed(0x676f6f64, 0x20616263, 0x6465663b, 0x676f6f64, 0x2067683b), 20);
        due("two lines", x.book(20), 2);
        due("the first name", x.named(1, packed("abcdef")), 0);
        due("the second name", x.named(1, packed("gh")), 1);

        says("NONE, and none come, if it would have more than 800.");
        x = new SaleRounds();
        due("a good", x.feed(0x676f6f64, 0x2061203b, 0x20202020, 0x20202020, 0x20202020), 20);
        for (int i = 2; i <= 40; i++) {
            due("blanks", x.feed(0x20202020, 0x0a0a0a0a, 0x20202020, 0x20202020, 0x20202020), 20 * i);
        }
        due("one too many", x.feed(0x21212121, 0x21212121, 0x21212121, 0x21212121, 0x21212121), -1);
        due("once more", x.feed(-1, -1, -1, -1, -1), -1);
        due("none of them came", x.book(801), -2);
        due("nor of the others", x.book(820), -2);
        due("the others stay", x.book(800), 1);
        due("a free tape", x.feed(0, 0, 0, 0, 0), 20);
    }

    private static void booking() {
        says("The TAPE's first n bytes (it is empty then) are the BOOK (none STOPPED, the RULE nowhere then): how many LINES;");
        SaleRounds x = made(HEAD + "sale p q 9 x 9 day 9;");
        x.stop(3);
        x.rule(1);
        x.sell(0, 1, 1, 0, 1, 9, 1);
        x.pay(0, 5);
        feed(x, "good a;good bbbbb;!!");
        due("the first seven", x.book(7), 1);
        due("no lands now", x.count(0), 0);
        due("one good now", x.count(1), 1);
        due("no firms now", x.count(2), 0);
        due("no sales now", x.count(3), 0);
        due("none told by sell", x.count(4), 0);
        due("none stopped", x.count(5), 0);
        due("no rule", x.count(6), 0);
        due("none missing", x.count(7), 0);
        due("x is gone", x.named(1, packed("x")), -1);
        due("a is there", x.named(1, packed("a")), 0);
        due("nothing to take back", x.undo(), -1);
        due("the rest of the tape is gone", x.book(1), -2);
        due("behind an empty tape", x.feed(0, 0, 0, 0, 0), 20);
        due("a book of no bytes", x.book(0), 0);
        due("no goods now", x.count(1), 0);
        due("the tape is empty then, too", x.book(1), -2);
        due("the same book again", tell(x, HEAD + "sale p q 9 x 9 day 9;"), 5);
        due("nothing paid", x.firm(0, 5), 0);
        due("none told by sell again", x.count(4), 0);

        says("NONE with a FAULT, all else stays;");
        x = made(HEAD + "firm r a 0 hand 3;sale p q 9 x 9 day 9 mark 1;sale q p 1 x 9 day 9 mark 1;paid p 1;");
        x.stop(4);
        x.sell(0, 1, 1, 0, 1, 9, 1);
        x.pay(1, 5);
        String before = shown(x);
        due("a faulty book", tell(x, "land b 40;good y;good z;firm a b 0 hand 1;firm b b 0 hand 1;paid a 7;!"), -1);
        due("all as it was", shown(x), before);
        due("its names, too", x.named(2, packed("r")), 2);
        due("none of the others", x.named(1, packed("z")), -1);
        due("parties as they were", x.hands(), 3);
        due("the rule can still be", x.rule(1), 1);
        due("another faulty one", tell(x, "land a 41;"), -1);
        due("the rule stays", x.count(6), 1);
        due("the tape is empty", x.book(1), -2);
        due("what sell told can be taken back", x.undo(), 0);
    }

    private static void refusedBooks() {
        says("-2, and the TAPE stays: there are not so many, n is below 0.");
        SaleRounds x = made(HEAD + "sale p q 9 x 9 day 9;");
        x.stop(1);
        x.rule(1);
        String before = shown(x);
        due("of an empty tape", x.book(1), -2);
        feed(x, "good a;good b;good c");
        for (int n : new int[] {21, 22, 40, 800, 801, Integer.MAX_VALUE, -1, -20, Integer.MIN_VALUE}) {
            due("book of " + n, x.book(n), -2);
        }
        due("all as it was", shown(x), before);
        due("behind the tape that stays", x.feed(0x3b202020, 0x20202020, 0x20202020, 0x20202020, 0x20202020), 40);
        due("all of it", x.book(40), 3);
        due("its goods", x.count(1), 3);
    }

    private static void faulting() {
        says("Of the latest book() that was not -2, what 0: its FAULT (0), 1: its place (NONE without).");
        SaleRounds x = new SaleRounds();
        x.book(1);
        due("none as yet", x.fault(0), 0);
        due("no place as yet", x.fault(1), -1);
        tell(x, "land a 41;");
        due("a fault", x.fault(0), 2);
        due("its place", x.fault(1), 7);
        x.book(-1);
        x.book(1);
        x.sell(0, 0, 0, 0, 0, 0, 0);
        due("the fault stays", x.fault(0), 2);
        due("its place stays", x.fault(1), 7);
        tell(x, "!");
        due("another fault", x.fault(0), 1);
        due("place 0", x.fault(1), 0);
        tell(x, "good a;");
        due("none now", x.fault(0), 0);
        due("no place now", x.fault(1), -1);
        x.book(-1);
        due("still none", x.fault(0), 0);
        tell(x, "!");
        x.book(0);
        due("none in an empty text", x.fault(0), 0);
        due("no place in an empty text", x.fault(1), -1);

        says("NONE for another what.");
        tell(x, "land a 41;");
        for (int what : new int[] {2, 3, -1, Integer.MAX_VALUE, Integer.MIN_VALUE}) {
            due("fault of " + what, x.fault(what), -1);
        }
    }

    private static void naming() {
        says("The number of a LAND (what 0), GOOD (1), FIRM (2) by its letters, 5 bits each (a is 1; the first one highest of six, 0 behind the last one);");
        SaleRounds x = made("land abcdef 0;land z 0;land zzzzzz 0;good a;good aa;good b;firm ab z 0;firm ba z 0;");
        due("six letters", x.named(0, 1 << 25 | 2 << 20 | 3 << 15 | 4 << 10 | 5 << 5 | 6), 0);
        due("one letter", x.named(0, 26 << 25), 1);
        due("the highest", x.named(0, 26 << 25 | 26 << 20 | 26 << 15 | 26 << 10 | 26 << 5 | 26), 2);
        due("a", x.named(1, 33554432), 0);
        due("aa", x.named(1, 1 << 25 | 1 << 20), 1);
        due("b", x.named(1, 2 << 25), 2);
        due("ab", x.named(2, 1 << 25 | 2 << 20), 0);
        due("ba", x.named(2, 2 << 25 | 1 << 20), 1);

        says("NONE: there is none such.");
        due("no letters", x.named(1, 0), -1);
        due("a as the last of six", x.named(1, 1), -1);
        due("a as the second of six", x.named(1, 1 << 20), -1);
        due("a with a bit above", x.named(1, 1 << 25 | 1 << 30), -1);
        due("a with the sign", x.named(1, 1 << 25 | 1 << 31), -1);
        due("a with a false letter behind", x.named(1, 1 << 25 | 27 << 20), -1);
        due("five of six letters", x.named(0, 1 << 25 | 2 << 20 | 3 << 15 | 4 << 10 | 5 << 5), -1);
        due("another kind", x.named(2, 33554432), -1);
        due("all bits", x.named(0, -1), -1);
        due("the least", x.named(0, Integer.MIN_VALUE), -1);
        for (int what : new int[] {3, -1, Integer.MAX_VALUE, Integer.MIN_VALUE}) {
            due("named of " + what, x.named(what, 33554432), -1);
        }
    }
}
