import java.util.NoSuchElementException;

/** What the tests share: houses told by a text, and answers that are compared. */
final class Bench {
    static final String NO_ELEMENT = "NoSuchElementException";
    static final String ILLEGAL = "IllegalArgumentException";

    interface Call {
        long answer();
    }

    private int wrong = 0;

    void due(String what, long want, Call call) {
        String got = outcome(call);
        if (!got.equals(String.valueOf(want))) {
            wrong++;
            System.out.println(what + " answered " + got + ", due is " + want);
        }
    }

    void dueThrow(String what, String want, Call call) {
        String got = outcome(call);
        if (!got.equals(want)) {
            wrong++;
            System.out.println(what + " answered " + got + ", due is " + want);
        }
    }

    void end() {
        if (wrong > 0) {
            System.exit(1);
        }
    }

    private static String outcome(Call call) {
        try {
            return String.valueOf(call.answer());
        } catch (NoSuchElementException e) {
            return e.getClass().getSimpleName();
        } catch (IllegalArgumentException e) {
            return e.getClass().getSimpleName();
        }
    }

    /** Feeds a text, with blanks behind it up to a whole row of twenty; its length. */
    static int feed(ShoeHouse house, String text) {
        for (int i = 0; i < text.length(); i += 20) {
            int[] n = new int[5];
            for (int j = 0; j < 20; j++) {
                int b = i + j < text.length() ? text.charAt(i + j) : ' ';
                n[j / 4] = n[j / 4] << 8 | b & 255;
            }
            house.feed(n[0], n[1], n[2], n[3], n[4]);
        }
        return text.length();
    }

    static int tell(ShoeHouse house, String text) {
        return house.house(feed(house, text));
    }

    static ShoeHouse of(String text) {
        ShoeHouse house = new ShoeHouse();
        if (tell(house, text) != 0) {
            System.out.println("no house: " + text);
            System.exit(1);
        }
        return house;
    }
}
