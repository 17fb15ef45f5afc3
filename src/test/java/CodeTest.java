/** Promises 30 to 33: kinds of slippers, words, words that are mended, a fire. */
public final class CodeTest {
    private static final Bench B = new Bench();
    private static final ShoeHouse H = new ShoeHouse();

    public static void main(String[] args) {
        kinds();
        words();
        mended();
        fire();
        B.end();
    }

    private static void kinds() {
        int[][] due = {{1, 1, 0}, {2, 1, 1}, {3, 1, 2}, {4, 1, 2}, {5, 1, 3}, {33, 1, 6}, {40, 1, 6}, {1, 2, 0}, {2, 2, 2},
            {3, 2, 3}, {8, 2, 4}, {9, 2, 5}, {40, 2, 7}, {1, 3, 0}, {2, 3, 3}, {3, 3, 5}, {4, 3, 5}, {5, 3, 6}, {8, 3, 6},
            {9, 3, 7}, {16, 3, 7}, {17, 3, -1}, {40, 3, -1}};
        for (int[] one : due) {
            B.due("kinds " + one[0] + ", " + one[1], one[2], () -> H.kinds(one[0], one[1]));
        }
        int[][] wrong = {{0, 1}, {41, 1}, {-1, 2}, {1, 0}, {1, 4}, {1, -1}, {99, 9}};
        for (int[] one : wrong) {
            B.dueThrow("kinds " + one[0] + ", " + one[1], Bench.ILLEGAL, () -> H.kinds(one[0], one[1]));
        }
    }

    private static void words() {
        int[] three = {0, 7, 25, 30, 42, 45, 51, 52, 75, 76, 82, 85, 97, 102, 120, 127};
        for (int i = 0; i < 40; i++) {
            int at = i;
            B.due("word " + i + " of 1", i, () -> H.word(at, 1));
            B.due("word " + i + " of 3", i < 16 ? three[i] : -1, () -> H.word(at, 3));
            int even = 2 * i + Integer.bitCount(i) % 2;
            B.due("word " + i + " of 2", even, () -> H.word(at, 2));
        }
        B.dueThrow("word 40", Bench.NO_ELEMENT, () -> H.word(40, 1));
        B.dueThrow("word -1, ahead of D", Bench.NO_ELEMENT, () -> H.word(-1, 0));
        B.dueThrow("D 0", Bench.ILLEGAL, () -> H.word(0, 0));
        B.dueThrow("D 4", Bench.ILLEGAL, () -> H.word(39, 4));
    }

    private static void mended() {
        B.due("a word", 1, () -> H.mend(7, 2, 3));
        B.due("nothing", 0, () -> H.mend(0, 1, 3));
        B.due("one away", 1, () -> H.mend(3, 2, 3));
        B.due("one away, the highest kind", 0, () -> H.mend(128, 2, 3));
        B.due("two away", -1, () -> H.mend(192, 2, 3));
        B.due("a word that isn't of the first", -1, () -> H.mend(25, 2, 3));
        B.due("the third", 2, () -> H.mend(25, 3, 3));
        B.due("the last", 15, () -> H.mend(255, 16, 3));
        B.due("D 2 mends none", -1, () -> H.mend(1, 40, 2));
        B.due("D 2", 3, () -> H.mend(6, 40, 2));
        B.due("D 1", 39, () -> H.mend(39, 40, 1));
        B.due("D 1 beyond", -1, () -> H.mend(40, 40, 1));
        int[][] wrong = {{0, 0, 1}, {0, 41, 1}, {0, 1, 0}, {0, 1, 4}, {-1, 1, 1}, {256, 1, 1}, {0, 17, 3}};
        for (int[] one : wrong) {
            B.dueThrow("mend " + one[0] + ", " + one[1] + ", " + one[2], Bench.ILLEGAL, () -> H.mend(one[0], one[1], one[2]));
        }
    }

    private static void burns(ShoeHouse h, int[] call, long upper, long lower) {
        B.due("upper part", upper, () -> h.fire(call[0], call[1], call[2], call[3], 0));
        B.due("lower part", lower, () -> h.fire(call[0], call[1], call[2], call[3], 1));
    }

    private static void fire() {
        ShoeHouse h = Bench.of("room 1;room 1;room 1;room 1;room 1;lodger 1;lodger 4;may 0 asleep 3 3;may 0 calm 4 4;"
                + "may 0 at 4 5 5;");
        burns(h, new int[] {0, 1, 3, 10}, 0, 1);
        burns(h, new int[] {0, 0, 3, 3}, 3, 10);
        burns(h, new int[] {0, 2, 3, 4}, 2, 5);
        burns(h, new int[] {0, 3, 3, 3}, 51, 100);
        burns(h, new int[] {0, 4, 3, 3}, 51, 100);
        burns(h, new int[] {0, 4, 3, 4}, 16, 25);
        burns(h, new int[] {0, 4, 3, 0}, 0, 1);
        burns(h, new int[] {0, 4, 3, 10}, 1, 1);
        burns(h, new int[] {0, 1, 4, 0}, 1, 1);
        burns(h, new int[] {0, 1, 5, 0}, 1, 1);
        burns(h, new int[] {1, 4, 3, 0}, 1, 1);
        B.dueThrow("no lodger", Bench.NO_ELEMENT, () -> h.fire(2, 0, 0, 11, 0));
        B.dueThrow("no room", Bench.NO_ELEMENT, () -> h.fire(0, 5, 0, 11, 0));
        B.dueThrow("no hour", Bench.NO_ELEMENT, () -> h.fire(0, 0, 24, 11, 0));
        B.dueThrow("what", Bench.NO_ELEMENT, () -> h.fire(0, 0, 0, 11, 2));
        B.dueThrow("wakes 11", Bench.ILLEGAL, () -> h.fire(1, 0, 0, 11, 0));
        B.dueThrow("wakes -1", Bench.ILLEGAL, () -> h.fire(1, 0, 0, -1, 0));
    }
}
