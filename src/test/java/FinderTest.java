/** Promises 24 to 29: chances, best rounds, where finders rest, the fewest lent. */
public final class FinderTest {
    private static final Bench B = new Bench();

    public static void main(String[] args) {
        chances();
        rounds();
        roundsOfLikeOnes();
        rests();
        fewest();
        fewestWithWhatIsLent();
        B.end();
    }

    private static void chances() {
        ShoeHouse h = Bench.of("room 5;room 6;lodger 0 left;may 0 cross 1 1;may 0 calm 1 1;may 0 at 1 1 1;may 0 cross 2 2;");
        B.due("a third", 9240, () -> h.chance(0, 1));
        B.due("whole", 27720, () -> h.chance(0, 2));
        B.due("out", 0, () -> h.chance(0, 3));
        B.due("no lodger", 0, () -> h.chance(1, 1));
        B.dueThrow("no room", Bench.NO_ELEMENT, () -> h.chance(2, 1));
        B.dueThrow("no hour", Bench.NO_ELEMENT, () -> h.chance(0, 24));
        ShoeHouse lent = Bench.of("room 5;room 6;lodger 0;lodger 1;may 0 cross 1 1;may 0 calm 1 1;");
        lent.lend(0, 1, 2);
        B.due("without a right one", 13860, () -> lent.chance(0, 1));
    }

    private static void rounds() {
        ShoeHouse h = Bench.of("room 10;room 20;room 30;room 40;lodger 0;lodger 1;lodger 2;law calm none;"
                + "may 0 calm 5 5;may 1 calm 6 6;may 1 out 6 6;may 1 calm 7 7;may 2 calm 7 7;may 2 calm 9 9;");
        B.dueThrow("none is kept", Bench.NO_ELEMENT, () -> h.path(0, 0));
        // 10 in 5, half of 20 in 6, 30 in 7
        B.due("three hours", 50 * 27720, () -> h.round(0, 5, 3));
        path(h, new int[] {0, 1, 2}, new int[] {1, 1, 1});
        // Into room 1 once: better in 7 (20) than in 6 (10), but then not 30.
        B.due("two hours from 1", 30 * 27720 + 10 * 27720, () -> h.round(1, 6, 2));
        path(h, new int[] {1, 2}, new int[] {1, 1});
        B.due("five hours: room 1 in 7, room 2 in 9", 60 * 27720, () -> h.round(0, 5, 5));
        path(h, new int[] {0, 0, 1, 1, 2}, new int[] {1, 0, 1, 0, 1});
        B.due("nothing", 0, () -> h.round(3, 10, 6));
        path(h, new int[] {3, 2, 1, 0, 0, 0}, new int[] {0, 0, 0, 0, 0, 0});
        B.due("the last hour", 0, () -> h.round(3, 23, 1));
        B.dueThrow("behind 23", Bench.ILLEGAL, () -> h.round(3, 23, 2));
        B.dueThrow("n 0", Bench.ILLEGAL, () -> h.round(3, 3, 0));
        B.dueThrow("n 7", Bench.ILLEGAL, () -> h.round(3, 3, 7));
        B.dueThrow("n great", Bench.ILLEGAL, () -> h.round(3, 23, Integer.MAX_VALUE));
        B.dueThrow("no room ahead of n", Bench.NO_ELEMENT, () -> h.round(4, 3, 0));
        B.dueThrow("no hour ahead of n", Bench.NO_ELEMENT, () -> h.round(3, 24, 0));
        path(h, new int[] {3}, new int[] {0});
        B.dueThrow("behind its end", Bench.NO_ELEMENT, () -> h.path(1, 0));
        B.dueThrow("what", Bench.NO_ELEMENT, () -> h.path(0, 2));
        B.dueThrow("below", Bench.NO_ELEMENT, () -> h.path(-1, 0));
    }

    private static void path(ShoeHouse h, int[] rooms, int[] looks) {
        for (int i = 0; i < rooms.length; i++) {
            int at = i;
            B.due("path " + i, rooms[i], () -> h.path(at, 0));
            B.due("look " + i, looks[i], () -> h.path(at, 1));
        }
        B.dueThrow("the path's end", Bench.NO_ELEMENT, () -> h.path(rooms.length, 0));
    }

    private static void roundsOfLikeOnes() {
        ShoeHouse h = Bench.of("room 7;room 7;room 7;lodger 0;lodger 1;lodger 2;law calm none;"
                + "may 0 calm 0 23;may 1 calm 0 23;may 2 calm 0 23;");
        B.due("once into a room", 14 * 27720, () -> h.round(1, 0, 2));
        path(h, new int[] {1, 0}, new int[] {1, 1});
        B.due("all three", 21 * 27720, () -> h.round(1, 0, 4));
        path(h, new int[] {1, 0, 1, 2}, new int[] {1, 1, 0, 1});
        h.image();
        Bench.tell(h, "room 1 00;");
        B.due("a fault leaves it kept", 0, () -> h.path(1, 0));
    }

    private static void rests() {
        ShoeHouse h = Bench.of("room 10;room 4;room 0;lodger 0;lodger 1;law calm none;may 0 calm 1 2;may 1 calm 1 1;");
        B.due("one", 1, () -> h.rests(1, 1, -1));
        B.due("at 0", 0, () -> h.rests(1, 1, 0));
        // 10 by 2 is more than 4: both at 0.
        B.due("two", 1, () -> h.rests(1, 2, -1));
        B.due("second at 0", 0, () -> h.rests(1, 2, 1));
        // 10 by 3 is less than 4: two at 0, one at 1, in three ways.
        B.due("three", 3, () -> h.rests(1, 3, -1));
        B.due("third", 1, () -> h.rests(1, 3, 2));
        B.due("first", 0, () -> h.rests(1, 3, 0));
        B.due("nothing to gain", 27, () -> h.rests(5, 3, -1));
        B.dueThrow("no such finder", Bench.NO_ELEMENT, () -> h.rests(1, 2, 2));
        B.dueThrow("no such finder below", Bench.NO_ELEMENT, () -> h.rests(1, 2, -2));
        B.dueThrow("k 0", Bench.ILLEGAL, () -> h.rests(1, 0, -1));
        B.dueThrow("k 4", Bench.ILLEGAL, () -> h.rests(1, 4, 9));
        B.dueThrow("no hour ahead of k", Bench.NO_ELEMENT, () -> h.rests(24, 4, 0));
        ShoeHouse none = new ShoeHouse();
        B.due("no rooms", 0, () -> none.rests(0, 3, -1));
        B.dueThrow("none rests", Bench.NO_ELEMENT, () -> none.rests(0, 3, 0));
    }

    private static void fewest() {
        // In 1 lodger 0 wants a right one, lodger 2 has one to spare (asleep), lodger 1 has too (calm).
        ShoeHouse h = Bench.of("room 1;room 1;room 1;room 1;lodger 0 left;lodger 1;lodger 2;lodger 3 left;"
                + "may 0 cross 1 2;may 1 calm 1 1;may 2 asleep 1 2;may 3 cross 1 1;may 1 cross 2 2;law calm none;");
        B.dueThrow("none is kept", Bench.NO_ELEMENT, () -> h.lender(0));
        B.due("none is needed", 0, () -> h.fewest(0, 0));
        B.due("nobody lends", -1, () -> h.lender(0));
        B.due("two", 2, () -> h.fewest(1, 1));
        B.due("lodger 0 by 1", 12, () -> h.lender(0));
        B.due("lodger 1", -1, () -> h.lender(1));
        B.due("lodger 3 by 2", 22, () -> h.lender(3));
        B.due("one shoe to spare, two who want it", -1, () -> h.fewest(1, 2));
        B.due("what was kept stays", 22, () -> h.lender(3));
        B.due("in 2", 1, () -> h.fewest(2, 2));
        B.due("lodger 0 by 2", 22, () -> h.lender(0));
        B.due("nobody lends to 3", -1, () -> h.lender(3));
        B.dueThrow("no lodger", Bench.NO_ELEMENT, () -> h.lender(4));
        B.dueThrow("b below a", Bench.ILLEGAL, () -> h.fewest(3, 2));
        B.dueThrow("a below 0", Bench.ILLEGAL, () -> h.fewest(-1, 2));
        B.dueThrow("b above 23", Bench.ILLEGAL, () -> h.fewest(3, 24));
    }

    private static void fewestWithWhatIsLent() {
        // All of lodger 0's shoes and lodger 1's left one are with lodger 2, who is calm: he needs none.
        ShoeHouse h = Bench.of("room 1;room 1;room 1;lodger 0;lodger 1 left;lodger 2;"
                + "may 0 cross 0 0;may 1 asleep 0 0;may 2 calm 0 0;may 0 out 1 1;may 1 out 1 1;may 2 calm 1 1;"
                + "may 0 cross 2 2;may 0 asleep 3 3;may 2 calm 2 3;law calm none;law out both;");
        h.lend(0, 2, 1);
        h.lend(0, 2, 2);
        h.lend(1, 2, 1);
        B.due("both shoeless", 2, () -> h.fewest(0, 0));
        B.due("a right one for 0", 22, () -> h.lender(0));
        B.due("a left one for 1", 21, () -> h.lender(1));
        B.due("each shoe once, but he has three left ones", 2, () -> h.fewest(1, 1));
        B.due("a left one for 0", 21, () -> h.lender(0));
        B.due("another left one for 1", 21, () -> h.lender(1));
        B.due("cross, then asleep: one shoe is too few", -1, () -> h.fewest(2, 3));
        h.back();
        h.back();
        h.back();
        B.due("nothing is wanted", 0, () -> h.fewest(2, 3));
        h.lend(0, 2, 1);
        B.due("he has a right one, and wants a left one", 1, () -> h.fewest(3, 3));
        B.due("his own kind of shoe", 21, () -> h.lender(0));
        // The first shoe that would do must be left for one who can use no other.
        ShoeHouse rest = Bench.of("room 1;room 1;room 1;room 1;lodger 0;lodger 1;lodger 2;lodger 3;"
                + "may 1 asleep 0 0;may 2 calm 0 0;may 3 calm 0 0;law calm none;");
        rest.lend(0, 2, 1);
        rest.lend(0, 2, 2);
        rest.lend(1, 2, 1);
        rest.lend(1, 2, 2);
        rest.lend(2, 0, 1);
        rest.lend(0, 3, 1);
        B.due("two", 2, () -> rest.fewest(0, 0));
        B.due("lodger 0", 21, () -> rest.lender(0));
        B.due("lodger 1", 21, () -> rest.lender(1));
        ShoeHouse one = Bench.of("room 1;room 1;room 1;lodger 0;lodger 1;lodger 2;"
                + "may 1 asleep 0 0;may 2 calm 0 0;law calm none;law asleep left;");
        one.lend(0, 1, 1);
        one.lend(0, 1, 2);
        one.lend(1, 2, 1);
        one.lend(1, 2, 1);
        one.lend(2, 1, 1);
        one.lend(1, 2, 1);
        B.due("0 wants either, 1 a left one", 2, () -> one.fewest(0, 0));
        B.due("1 lends his spare right one", 12, () -> one.lender(0));
        B.due("1 by 2", 21, () -> one.lender(1));
    }
}
