import java.nio.charset.StandardCharsets;
import java.util.ArrayList;
import java.util.List;
import java.util.NoSuchElementException;

/** What the tests by hand share: books told by texts, and answers held against those that are due. */
abstract class SaleRoundsChecks {
    private static int wrong = 0;
    private static int asked = 0;
    private static final List<String> SAID = new ArrayList<>();

    /** The sentence of the document that the checks from here on are for. */
    static void says(String sentence) {
        SAID.add(sentence);
    }

    static List<String> said() {
        return SAID;
    }

    static void due(String what, long got, long want) {
        asked++;
        if (got != want) {
            wrong++;
            String sentence = SAID.isEmpty() ? "" : " [" + SAID.get(SAID.size() - 1) + "]";
            System.out.println(what + ": answered " + got + ", due is " + want + sentence);
        }
    }

    static void due(String what, String got, String want) {
        due(what + ": " + got + " instead of " + want, got.equals(want) ? 1 : 0, 1);
    }

    /** Tells how it went, and ends with exit code 1 if an answer was wrong. */
    static void close() {
        System.out.println(wrong == 0 ? "all " + asked + " answers are as due" : wrong + " answers are not as due");
        if (wrong != 0) {
            System.exit(1);
        }
    }

    static void feed(SaleRounds x, String text) {
        byte[] bytes = text.getBytes(StandardCharsets.ISO_8859_1);
        for (int i = 0; i < bytes.length; i += 20) {
            int[] five = new int[5];
            for (int j = 0; j < 20; j++) {
                five[j / 4] = five[j / 4] << 8 | (i + j < bytes.length ? bytes[i + j] & 255 : 'Z');
            }
            x.feed(five[0], five[1], five[2], five[3], five[4]);
        }
    }

    static int tell(SaleRounds x, String text) {
        feed(x, text);
        return x.book(text.length());
    }

    static SaleRounds made(String text) {
        SaleRounds x = new SaleRounds();
        if (tell(x, text) < 0) {
            throw new IllegalStateException("fault " + x.fault(0) + " at " + x.fault(1) + " in " + text);
        }
        return x;
    }

    static SaleRounds fine(String text, int lines) {
        SaleRounds x = new SaleRounds();
        due("book of " + text, tell(x, text), lines);
        due("no fault in " + text, x.fault(0), 0);
        due("no place in " + text, x.fault(1), -1);
        return x;
    }

    static void faulty(String text, int fault, int place) {
        SaleRounds x = new SaleRounds();
        due("book of " + text, tell(x, text), -1);
        due("fault of " + text, x.fault(0), fault);
        due("place in " + text, x.fault(1), place);
    }

    static int packed(String name) {
        int letters = 0;
        for (int i = 0; i < 6; i++) {
            letters = letters * 32 + (i < name.length() ? name.charAt(i) - 96 : 0);
        }
        return letters;
    }

    static long row(int... sales) {
        long row = 0;
        for (int i = 0; i < sales.length; i++) {
            row |= (long) sales[i] << 6 * i;
        }
        return row;
    }

    static int bits(int... which) {
        int bits = 0;
        for (int one : which) {
            bits |= 1 << one;
        }
        return bits;
    }

    /** 1 and 2 for the exceptions that the document names, 0 for none. */
    static int thrown(SaleRounds x, int sale, int what) {
        try {
            x.look(sale, what);
            return 0;
        } catch (IndexOutOfBoundsException e) {
            return 1;
        } catch (NoSuchElementException e) {
            return 2;
        }
    }

    /** Firms a, b, c .. in one land with a tax of 10; goods x and y. */
    static SaleRounds firms(int many) {
        StringBuilder text = new StringBuilder("land a 10;good x;good y;");
        for (int i = 0; i < many; i++) {
            text.append("firm ").append((char) ('a' + i)).append(" a 0;");
        }
        return made(text.toString());
    }

    /** Of good 0, without a mark. */
    static int sold(SaleRounds x, int from, int to, int number, int price, int day) {
        return x.sell(from, to, number, 0, price, day, 0);
    }

    /** All of an object that small calls show but for the tape: for what must leave it as it is. */
    static String shown(SaleRounds x) {
        StringBuilder all = new StringBuilder();
        for (int what = 0; what < 8; what++) {
            all.append(x.count(what)).append(what < 7 ? "," : ";");
        }
        for (int firm = 0; firm < x.count(2); firm++) {
            for (int what = 0; what < 8; what++) {
                all.append(x.firm(firm, what)).append(what < 7 ? "," : ";");
            }
        }
        for (int sale = 0; sale < x.count(3); sale++) {
            for (int what = 0; what < 8; what++) {
                all.append(x.look(sale, what)).append(what < 7 ? "," : ";");
            }
        }
        return all.append(x.rounds(1, 6, 400)).append(",").append(x.takes(1, 6, 400)).toString();
    }
}
