/** Boundary cases of promises 30 to 33: kinds of slippers, words, words that are mended, a fire. */
final class EdgesOfCode extends Edges {
    private static final int NONE = ShoeHouse.NONE;
    private static final int LEAST = Integer.MIN_VALUE;
    private static final int MOST = Integer.MAX_VALUE;

    private EdgesOfCode() {
    }

    static void all() {
        kinds();
        word();
        mend();
        mendRefused();
        fire();
        fireOfOthers();
    }

    private static void kinds() {
        edge(30, "FEWEST kinds for n WORDS, D apart; NONE: 8 are too few.", () -> {
            // Of each D the most words that 0, 1, 2 .. kinds have.
            int[][] most = {{1, 2, 4, 8, 16, 32, 64}, {1, 1, 2, 4, 8, 16, 32, 64}, {1, 1, 1, 2, 2, 4, 8, 16, 16}};
            for (int d = 1; d <= 3; d++) {
                ShoeHouse h = new ShoeHouse();
                int kinds = 0;
                for (int n = 1; n <= 40; n++) {
                    while (kinds < most[d - 1].length && most[d - 1][kinds] < n) {
                        kinds++;
                    }
                    due(kinds > 8 ? NONE : kinds, h.kinds(n, d));
                }
            }
        });
        edge(30, "NONE: 8 are too few", () -> {
            ShoeHouse h = new ShoeHouse();
            due(7, h.kinds(16, 3));
            due(NONE, h.kinds(17, 3));
            due(NONE, h.kinds(40, 3));
            due(6, h.kinds(40, 1));
            due(7, h.kinds(40, 2));
        });
        edge(30, "FEWEST kinds for n WORDS (1 to 40): the least k by which there are n or more "
                + "below 2 to the power of k.", () -> {
            ShoeHouse h = new ShoeHouse();
            for (int d = 1; d <= 3; d++) {
                due(0, h.kinds(1, d));
                due(d, h.kinds(2, d));
            }
            due(5, h.kinds(32, 1));
            due(6, h.kinds(33, 1));
            due(6, h.kinds(32, 2));
            due(7, h.kinds(33, 2));
        });
        edge(30, "IllegalArgumentException: n, D.", () -> {
            ShoeHouse h = new ShoeHouse();
            for (int n : new int[] {0, 41, -1, LEAST, MOST}) {
                for (int d = 0; d <= 4; d++) {
                    int apart = d;
                    illegal(() -> h.kinds(n, apart));
                }
            }
            for (int d : new int[] {0, 4, -1, LEAST, MOST}) {
                illegal(() -> h.kinds(1, d));
                illegal(() -> h.kinds(40, d));
            }
            due(0, h.kinds(1, 1));
        });
    }

    private static void word() {
        edge(31, "The i-th WORD (0 to 39) of those that are D apart; NONE: it is 256 or more.", () -> {
            ShoeHouse h = new ShoeHouse();
            int[] three = {0, 7, 25, 30, 42, 45, 51, 52, 75, 76, 82, 85, 97, 102, 120, 127};
            for (int i = 0; i < 40; i++) {
                due(i, h.word(i, 1));
                due(2 * i + Integer.bitCount(i) % 2, h.word(i, 2));
                due(i < 16 ? three[i] : NONE, h.word(i, 3));
            }
        });
        edge(31, "that are D (1 to 3) or more kinds apart from one another: from 0 on each number is a WORD, "
                + "if it is D apart from all WORDS ahead", () -> {
            ShoeHouse h = new ShoeHouse();
            for (int d = 1; d <= 3; d++) {
                due(0, h.word(0, d));
                due((1 << d) - 1, h.word(1, d));
            }
        });
        edge(31, "NoSuchElementException: no such one.", () -> {
            ShoeHouse h = new ShoeHouse();
            for (int i : new int[] {-1, 40, LEAST, MOST}) {
                for (int d = 0; d <= 4; d++) {
                    int apart = d;
                    noElement(() -> h.word(i, apart));
                }
            }
            due(39, h.word(39, 1));
        });
        edge(31, "IllegalArgumentException (behind that): D.", () -> {
            ShoeHouse h = new ShoeHouse();
            for (int d : new int[] {0, 4, -1, LEAST, MOST}) {
                illegal(() -> h.word(0, d));
                illegal(() -> h.word(39, d));
                noElement(() -> h.word(40, d));
            }
        });
    }

    private static void mend() {
        edge(32, "A number (0 to 255) MENDED: which of the first n WORDS; NONE: it isn't.", () -> {
            ShoeHouse h = new ShoeHouse();
            due(0, h.mend(0, 1, 1));
            due(NONE, h.mend(255, 40, 1));
            due(39, h.mend(39, 40, 1));
            due(NONE, h.mend(39, 39, 1));
            due(NONE, h.mend(40, 40, 1));
            due(15, h.mend(127, 16, 3));
            due(15, h.mend(255, 16, 3));
            due(NONE, h.mend(127, 15, 3));
        });
        edge(32, "A number is MENDED to the nearest WORD of the first n, if that is no more than D less 1 by 2, "
                + "cut down, kinds away.", () -> {
            ShoeHouse h = new ShoeHouse();
            for (int bit = 0; bit < 8; bit++) {
                due(NONE, h.mend(1 << bit, 1, 1));
                due(NONE, h.mend(1 << bit, 1, 2));
                due(0, h.mend(1 << bit, 1, 3));
                due(1, h.mend(7 ^ 1 << bit, 2, 3));
            }
            for (int bit = 0; bit < 7; bit++) {
                due(NONE, h.mend(3 << bit, 1, 3));
            }
            due(1, h.mend(3, 40, 2));
            due(NONE, h.mend(2, 40, 2));
            due(NONE, h.mend(192, 16, 3));
        });
    }

    private static void mendRefused() {
        edge(32, "IllegalArgumentException: n, D, the number, there are not n WORDS below 256.", () -> {
            ShoeHouse h = new ShoeHouse();
            for (int wrong : new int[] {0, 41, -1, LEAST, MOST}) {
                illegal(() -> h.mend(0, wrong, 1));
            }
            for (int wrong : new int[] {0, 4, -1, LEAST, MOST}) {
                illegal(() -> h.mend(0, 1, wrong));
            }
            for (int wrong : new int[] {-1, 256, LEAST, MOST}) {
                illegal(() -> h.mend(wrong, 1, 1));
            }
        });
        edge(32, "there are not n WORDS below 256", () -> {
            ShoeHouse h = new ShoeHouse();
            due(0, h.mend(0, 16, 3));
            illegal(() -> h.mend(0, 17, 3));
            illegal(() -> h.mend(0, 40, 3));
            due(0, h.mend(0, 40, 2));
            due(0, h.mend(0, 40, 1));
        });
    }

    private static final String ASLEEP = "room 1;".repeat(8) + "lodger 0;lodger 3;may 0 asleep 0 0;may 1 asleep 23 23;";

    private static void burns(ShoeHouse h, int[] call, int upper, int lower) {
        due(upper, h.fire(call[0], call[1], call[2], call[3], 0));
        due(lower, h.fire(call[0], call[1], call[2], call[3], 1));
    }

    private static void fire() {
        int[][] once = {{0, 1}, {1, 10}, {1, 5}, {3, 10}, {2, 5}, {1, 2}, {3, 5}, {7, 10}, {4, 5}, {9, 10}, {1, 1}};
        int[][] twice = {{0, 1}, {19, 100}, {9, 25}, {51, 100}, {16, 25}, {3, 4}, {21, 25}, {91, 100}, {24, 25}, {99, 100},
            {1, 1}};
        edge(33, "How likely a LODGER gets out of a FIRE: the upper part (what 0), the lower part (1).", () -> {
            ShoeHouse h = Bench.of(ASLEEP);
            for (int wakes = 0; wakes <= 10; wakes++) {
                burns(h, new int[] {0, 1, 0, wakes}, once[wakes][0], once[wakes][1]);
                burns(h, new int[] {0, 2, 0, wakes}, twice[wakes][0], twice[wakes][1]);
            }
        });
        edge(33, "Who is at home ASLEEP wakes in each minute from when the fire is 2 ROOMS away (at once, if it begins nearer) "
                + "up to the one ahead of its coming, by WAKES tenths (0 to 10)", () -> {
            ShoeHouse h = Bench.of(ASLEEP);
            for (int wakes = 0; wakes <= 10; wakes++) {
                burns(h, new int[] {0, 0, 0, wakes}, 0, 1);
                for (int room = 2; room < 8; room++) {
                    burns(h, new int[] {0, room, 0, wakes}, twice[wakes][0], twice[wakes][1]);
                }
            }
        });
        edge(33, "it is in a ROOM as many minutes later as the ROOM is away", () -> {
            // From either side of his room alike; the landing's ends are not beside one another.
            ShoeHouse h = Bench.of(ASLEEP);
            int[] minutes = {2, 2, 1, 0, 1, 2, 2, 2};
            for (int room = 0; room < 8; room++) {
                int[] due = minutes[room] == 0 ? new int[] {0, 1} : minutes[room] == 1 ? once[3] : twice[3];
                burns(h, new int[] {1, room, 23, 3}, due[0], due[1]);
            }
            burns(h, new int[] {0, 7, 0, 3}, 51, 100);
        });
        edge(33, "NoSuchElementException: also another what.", () -> {
            ShoeHouse h = Bench.of(ASLEEP);
            for (int what : new int[] {-1, 2, LEAST, MOST}) {
                noElement(() -> h.fire(0, 0, 0, 5, what));
                noElement(() -> h.fire(0, 0, 0, 11, what));
                noElement(() -> h.fire(0, 0, 1, 5, what));
            }
            noElement(() -> h.fire(2, 0, 0, 11, 0));
            noElement(() -> h.fire(-1, 0, 0, 11, 0));
            noElement(() -> h.fire(0, 8, 0, 11, 0));
            noElement(() -> h.fire(0, -1, 0, 11, 0));
            noElement(() -> h.fire(0, 0, 24, 11, 0));
            noElement(() -> h.fire(0, 0, -1, 11, 0));
        });
        edge(33, "IllegalArgumentException (behind that): WAKES.", () -> {
            ShoeHouse h = Bench.of(ASLEEP);
            for (int wakes : new int[] {-1, 11, LEAST, MOST}) {
                illegal(() -> h.fire(0, 1, 0, wakes, 0));
                illegal(() -> h.fire(0, 0, 0, wakes, 1));
                illegal(() -> h.fire(0, 1, 5, wakes, 1));
            }
            due(0, h.fire(0, 1, 0, 0, 0));
            due(1, h.fire(0, 1, 0, 10, 0));
        });
    }

    private static void fireOfOthers() {
        edge(33, "how likely he gets out, as a fraction in lowest terms (1 by 1 of all others)", () -> {
            ShoeHouse h = Bench.of("room 1;room 1;lodger 0;may 0 out 0 0;may 0 asleep 1 1;may 0 cross 2 2;may 0 calm 3 3;"
                    + "may 0 at 1 4 4;");
            for (int room = 0; room < 2; room++) {
                for (int hour : new int[] {0, 2, 3, 4, 5}) {
                    burns(h, new int[] {0, room, hour, 0}, 1, 1);
                }
            }
            burns(h, new int[] {0, 0, 1, 10}, 0, 1);
            burns(h, new int[] {0, 1, 1, 0}, 0, 1);
            burns(h, new int[] {0, 1, 1, 5}, 1, 2);
            burns(h, new int[] {0, 1, 1, 10}, 1, 1);
        });
        edge(33, "A FIRE in a ROOM in an HOUR of THE DAY", () -> {
            ShoeHouse h = Bench.of("room 1;room 1;lodger 0;may 0 asleep 0 0;may 0 calm 0 0;");
            burns(h, new int[] {0, 1, 0, 4}, 2, 5);
            h.draw(1 << 16);
            due(3, h.does(0, 0));
            burns(h, new int[] {0, 1, 0, 4}, 1, 1);
        });
    }
}
