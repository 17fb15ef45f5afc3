/** Boundary cases of promises 19 to 23: cases, sure rooms, where one may be, who is misled. */
final class EdgesOfCases extends Edges {
    private static final int NONE = ShoeHouse.NONE;
    private static final int SPENT = -2;
    private static final int LEAST = Integer.MIN_VALUE;
    private static final int MOST = Integer.MAX_VALUE;

    private EdgesOfCases() {
    }

    static void all() {
        cases();
        inCase();
        sure();
        knock();
        where();
        misled();
        misledInAFullHouse();
        misledByNone();
    }

    /** Lodgers in rooms 0 on of eight, each of whom may do so many things in one hour. */
    private static ShoeHouse crowd(int hour, int... many) {
        StringBuilder text = new StringBuilder("room1;".repeat(8));
        for (int lodger = 0; lodger < many.length; lodger++) {
            text.append("lodger").append(lodger).append(';');
        }
        for (int lodger = 0; lodger < many.length; lodger++) {
            for (int i = 0; i < many[lodger]; i++) {
                int room = i - 4 < lodger ? i - 4 : i - 3;
                text.append("may").append(lodger).append(i < 4 ? Model.DOINGS[i] : "at" + room);
                text.append(' ').append(hour).append(' ').append(hour).append(';');
            }
        }
        return Bench.of(text.toString());
    }

    private static void cases() {
        edge(19, "CASES of the HOUR that is SEEN (HOUR 0, if nothing is): how many; -2: SPENT.", () -> {
            ShoeHouse h = Bench.of("room 1;room 1;lodger 0;may 0 out 0 0;may 0 calm 0 0;may 0 out 23 23;may 0 asleep 23 23;"
                    + "may 0 cross 23 23;");
            due(2, h.cases());
            h.see(1, 23, 3);
            due(3, h.cases());
            h.see(1, 1, 3);
            due(1, h.cases());
            h.see(1, 0, 3);
            due(2, h.cases());
            h.see(1, 23, 3);
            h.forget();
            due(2, h.cases());
            due(SPENT, crowd(0, 7, 8, 8, 9).cases());
        });
        edge(19, "More than 4000 rows of what they MAY do (SEEN or not): SPENT.", () -> {
            // 4032 is the least number above 4000 that six lodgers of eleven doings at most can have.
            due(4000, crowd(0, 10, 10, 10, 4).cases());
            due(4000, crowd(0, 5, 5, 5, 4, 4, 2).cases());
            ShoeHouse h = crowd(0, 7, 8, 8, 9);
            due(SPENT, h.cases());
            for (int room = 0; room < 4; room++) {
                h.see(room, 0, 1);
                due(SPENT, h.cases());
            }
            h.see(7, 0, 0);
            due(SPENT, h.cases());
            h.see(7, 1, 3);
            due(1, h.cases());
            h.forget();
            due(SPENT, h.cases());
        });
        edge(19, "More than 4000 rows of what they MAY do (SEEN or not): SPENT.", () -> {
            ShoeHouse h = crowd(23, 11, 11, 11, 4);
            due(1, h.cases());
            h.see(0, 22, 3);
            due(1, h.cases());
            h.see(0, 23, 3);
            due(SPENT, h.cases());
            ShoeHouse most = crowd(23, 7, 7, 7, 7, 6, 6);
            most.see(0, 23, 3);
            due(SPENT, most.cases());
        });
        edge(19, "A CASE is what all LODGERS do, each something that he MAY in that HOUR, "
                + "such that THE SIGNS are those SEEN.", () -> {
            ShoeHouse h = Bench.of("room 1;room 1;room 1;lodger 0;lodger 1 left;may 0 out 4 4;may 0 asleep 4 4;"
                    + "may 0 calm 4 4;may 0 at 2 4 4;may 1 cross 4 4;may 1 calm 4 4;");
            int[] bySign = {0, 2, 0, 2};
            for (int sign = 0; sign < 4; sign++) {
                h.forget();
                h.see(0, 4, sign);
                due(2 * bySign[sign], h.cases());
            }
            h.see(1, 4, 0);
            due(2, h.cases());
            h.see(2, 4, 3);
            due(2, h.cases());
            for (int sign = 0; sign < 3; sign++) {
                h.forget();
                h.see(2, 4, sign);
                due(0, h.cases());
            }
            h.forget();
            h.lend(1, 0, 1);
            h.see(1, 4, 0);
            due(8, h.cases());
        });
    }

    private static void inCase() {
        edge(20, "What a LODGER does in the i-th CASE.", () -> {
            ShoeHouse h = crowd(0, 10, 10, 10, 4);
            int[] first = {0, 0, 0, 0};
            int[] last = {16, 16, 16, 3};
            int[] fifth = {0, 0, 1, 0};
            for (int lodger = 0; lodger < 4; lodger++) {
                due(first[lodger], h.inCase(0, lodger));
                due(fifth[lodger], h.inCase(4, lodger));
                due(last[lodger], h.inCase(3999, lodger));
            }
        });
        edge(20, "CASES in the order of LODGER 0's numbers, then LODGER 1's, and so on.", () -> {
            ShoeHouse h = Bench.of("room 1;room 1;room 1;lodger 0;lodger 1;may 0 at 2 0 0;may 0 calm 0 0;may 0 out 0 0;"
                    + "may 1 at 2 0 0;may 1 cross 0 0;");
            int[][] rows = {{0, 2}, {0, 12}, {3, 2}, {3, 12}, {12, 2}, {12, 12}};
            due(rows.length, h.cases());
            for (int i = 0; i < rows.length; i++) {
                due(rows[i][0], h.inCase(i, 0));
                due(rows[i][1], h.inCase(i, 1));
            }
            h.see(0, 0, 3);
            int[][] seen = {{0, 2}, {0, 12}, {12, 2}, {12, 12}};
            for (int i = 0; i < seen.length; i++) {
                due(seen[i][0], h.inCase(i, 0));
                due(seen[i][1], h.inCase(i, 1));
            }
            noElement(() -> h.inCase(4, 0));
        });
        edge(20, "What a LODGER does in the i-th CASE.", () -> {
            // One alone is no choice, but is told.
            ShoeHouse h = Bench.of("room 1;room 1;lodger 0;lodger 1;may 0 cross 0 0;may 1 calm 0 0;may 1 asleep 0 0;");
            for (int i = 0; i < 2; i++) {
                due(2, h.inCase(i, 0));
                due(i == 0 ? 1 : 3, h.inCase(i, 1));
            }
            h.see(1, 5, 3);
            due(1, h.cases());
            due(0, h.inCase(0, 0));
            due(0, h.inCase(0, 1));
            noElement(() -> h.inCase(1, 0));
        });
        edge(20, "NoSuchElementException: also there is none, SPENT.", () -> {
            ShoeHouse h = Bench.of("room 1;room 1;lodger 0;may 0 out 0 0;may 0 calm 0 0;");
            for (int i : new int[] {-1, 2, LEAST, MOST}) {
                noElement(() -> h.inCase(i, 0));
            }
            noElement(() -> h.inCase(0, 1));
            noElement(() -> h.inCase(0, -1));
            due(3, h.inCase(1, 0));
            h.see(1, 0, 0);
            noElement(() -> h.inCase(0, 0));
            ShoeHouse spent = crowd(0, 7, 8, 8, 9);
            noElement(() -> spent.inCase(0, 0));
            noElement(() -> spent.inCase(-2, 0));
            noElement(() -> spent.inCase(4031, 0));
        });
    }

    private static void sure() {
        edge(21, "SURE: ROOMS in which nobody is (what 0), in which somebody is (1), as bits", () -> {
            ShoeHouse h = Bench.of("room 1;".repeat(8) + "lodger 0;lodger 7;may 0 at 7 0 0;may 0 asleep 0 0;may 1 cross 0 0;"
                    + "may 1 calm 0 0;");
            due(0x7e, h.sure(0));
            due(0x80, h.sure(1));
            h.see(0, 0, 3);
            due(0x7f, h.sure(0));
            due(0x80, h.sure(1));
        });
        edge(21, "SURE: ROOMS in which nobody is in any CASE; in which somebody is in each one "
                + "(none of either without CASES).", () -> {
            // Either of two is in room 2 in each case, though neither is there in all of them.
            ShoeHouse h = Bench.of("room 1;room 1;room 1;lodger 0;lodger 1;may 0 at 2 0 0;may 0 out 0 0;may 1 at 2 0 0;"
                    + "may 1 calm 0 0;");
            due(1, h.sure(0));
            due(0, h.sure(1));
            h.see(1, 0, 3);
            due(3, h.sure(0));
            due(4, h.sure(1));
            h.forget();
            h.see(0, 0, 0);
            due(0, h.cases());
            due(0, h.sure(0));
            due(0, h.sure(1));
            h.forget();
            h.see(2, 0, 0);
            due(0, h.sure(0));
            due(0, h.sure(1));
        });
        edge(21, "in which somebody is in each one (none of either without CASES)", () -> {
            // One case alone makes every room sure.
            ShoeHouse h = Bench.of("room 1;room 1;room 1;room 1;lodger 0;lodger 1;lodger 3;may 0 calm 0 0;may 1 cross 0 0;"
                    + "may 2 at 0 0 0;");
            due(1, h.cases());
            due(12, h.sure(0));
            due(3, h.sure(1));
            h.see(3, 0, 3);
            due(12, h.sure(0));
            due(3, h.sure(1));
            h.see(2, 1, 3);
            due(15, h.sure(0));
            due(0, h.sure(1));
        });
        edge(21, "-2 of all: SPENT.", () -> {
            ShoeHouse h = crowd(0, 7, 8, 8, 9);
            for (int what = 0; what < 3; what++) {
                due(SPENT, h.sure(what));
            }
            h.see(7, 0, 0);
            for (int what = 0; what < 3; what++) {
                due(SPENT, h.sure(what));
            }
            noElement(() -> h.sure(3));
            ShoeHouse most = crowd(0, 10, 10, 10, 4);
            due(0x80, most.sure(0));
            due(0, most.sure(1));
            due(0, most.sure(2));
        });
        edge(21, "NoSuchElementException: another what.", () -> {
            ShoeHouse h = Bench.of("room 1;");
            for (int what : new int[] {-1, 3, LEAST, MOST}) {
                noElement(() -> h.sure(what));
            }
        });
    }

    private static void knock() {
        edge(21, "TO KNOCK (2; NONE: no ROOMS, no CASES)", () -> {
            due(NONE, new ShoeHouse().sure(2));
            ShoeHouse h = Bench.of("room 1;room 1;");
            due(0, h.sure(2));
            h.see(1, 0, 2);
            due(NONE, h.sure(2));
            h.see(1, 1, 3);
            due(0, h.sure(2));
            due(0, h.house(0));
            due(NONE, h.sure(2));
        });
        edge(21, "the greater of both numbers least, of like ones the least ROOM", () -> {
            // Room 0 parts 4 cases as 3 and 1, rooms 1 and 2 as 2 and 2, room 3 as 0 and 4.
            ShoeHouse h = Bench.of("room 1;room 1;room 1;room 1;lodger 0;lodger 1;may 0 asleep 0 0;may 0 cross 0 0;"
                    + "may 0 calm 0 0;may 0 at 2 0 0;");
            due(0, h.sure(2));
            ShoeHouse two = Bench.of("room 1;room 1;room 1;room 1;lodger 0;lodger 1;may 0 asleep 0 0;may 0 cross 0 0;"
                    + "may 0 at 2 0 0;may 0 at 1 0 0;may 1 cross 0 0;may 1 out 0 0;");
            // Of 8 cases room 0 has 4, room 1 has 5, room 2 has 2.
            due(0, two.sure(2));
            ShoeHouse last = Bench.of("room 1;room 1;room 1;lodger 0;lodger 1;may 0 asleep 0 0;may 0 cross 0 0;may 0 calm 0 0;"
                    + "may 0 at 2 0 0;may 1 out 0 0;may 1 at 2 0 0;");
            // Of 8 cases room 0 has 6, room 1 none, room 2 has 5.
            due(2, last.sure(2));
            ShoeHouse like = Bench.of("room 1;room 1;room 1;lodger 1;may 0 at 2 0 0;may 0 calm 0 0;");
            due(1, like.sure(2));
        });
    }

    private static void where() {
        edge(22, "WHERE a LODGER may be, as bits (0: in no ROOM); -2: SPENT.", () -> {
            ShoeHouse h = Bench.of("room 1;".repeat(8) + "lodger 0;lodger 7;may 0 at 7 0 0;may 0 out 0 0;may 0 asleep 0 0;");
            due(0x81, h.where(0));
            due(0, h.where(1));
            h.see(0, 0, 1);
            due(1, h.where(0));
            h.see(1, 0, 0);
            due(0, h.where(0));
            due(0, h.where(1));
            ShoeHouse spent = crowd(0, 7, 8, 8, 9);
            due(SPENT, spent.where(0));
            due(SPENT, spent.where(3));
            noElement(() -> spent.where(4));
            due(0x7f, crowd(0, 10, 10, 10, 4).where(0));
        });
        edge(22, "WHERE a LODGER may be: ROOMS in which he is in some CASE.", () -> {
            ShoeHouse h = Bench.of("room 1;room 1;lodger 1;may 0 asleep 1 1;may 0 cross 2 2;may 0 calm 3 3;may 0 at 0 4 4;"
                    + "may 0 out 5 5;may 0 at 0 6 6;may 0 cross 6 6;");
            int[] want = {0, 2, 2, 2, 1, 0, 3};
            for (int hour = 0; hour < want.length; hour++) {
                h.see(0, hour, 3);
                due(want[hour], h.where(0));
            }
        });
    }

    private static void misled() {
        edge(23, "MISLED: the fewest doors (what 0), which, as bits of LODGERS (1); NONE: none; -2: SPENT.", () -> {
            // By both, who is cross or in room 1 is not told from who is out; by a left shoe he sleeps.
            ShoeHouse h = Bench.of("room 5;room 5;room 5;lodger 0;lodger 1;may 0 asleep 0 0;may 0 cross 0 0;may 0 at 1 0 0;"
                    + "law cross both;");
            due(1, h.misled(0, 0, 0));
            due(1, h.misled(0, 0, 1));
            due(1, h.misled(1, 0, 0));
            due(1, h.misled(1, 0, 1));
            due(NONE, h.misled(2, 0, 0));
            due(NONE, h.misled(2, 0, 1));
            h.draw(10);
            due(2, h.does(0, 0));
            due(0, h.misled(0, 0, 0));
            due(0, h.misled(0, 0, 1));
        });
        edge(23, "-2: SPENT", () -> {
            ShoeHouse h = crowd(0, 7, 8, 8, 9);
            for (int room = 0; room < 8; room++) {
                due(SPENT, h.misled(room, 0, 0));
                due(SPENT, h.misled(room, 0, 1));
            }
            due(NONE, h.misled(0, 1, 0));
            h.see(7, 1, 3);
            due(SPENT, h.misled(0, 0, 0));
            noElement(() -> h.misled(0, 0, 2));
            ShoeHouse most = crowd(23, 10, 10, 10, 4);
            due(0, most.misled(0, 23, 0));
            due(NONE, most.misled(7, 23, 0));
        });
        edge(23, "of as few the least as bits of LODGERS", () -> {
            String text = "room 5;room 5;room 5;room 5;lodger 0;lodger 1;lodger 2;may 1 asleep 0 0;may 1 cross 0 0;"
                    + "may 1 at 3 0 0;may 2 asleep 0 0;may 2 cross 0 0;may 2 at 3 0 0;law out right;";
            ShoeHouse h = Bench.of(text);
            due(1, h.misled(3, 0, 0));
            due(2, h.misled(3, 0, 1));
            // Lodger 0 is surely there, so his door must show another sign, and then one more.
            ShoeHouse there = Bench.of(text + "may 0 at 3 0 0;may 0 asleep 0 0;");
            there.draw(1);
            for (int seed = 2; seed < 200 && (there.does(0, 0) != 13 || there.does(1, 0) + there.does(2, 0) != 2); seed++) {
                there.draw(seed);
            }
            due(13, there.does(0, 0));
            due(2, there.misled(3, 0, 0));
            due(3, there.misled(3, 0, 1));
        });
        edge(23, "with another SIGN (of what shoes they have: any part of these) than the one that they have, by which, "
                + "all doors being SEEN, there are CASES, and the ROOM isn't SURE (in either way)", () -> {
            // With a left shoe alone each doing shows the same; without any too.
            ShoeHouse h = Bench.of("room 5;room 5;lodger 0;lodger 1;may 0 asleep 0 0;may 0 cross 0 0;may 0 at 1 0 0;"
                    + "law cross both;law asleep left;");
            due(1, h.misled(0, 0, 0));
            h.see(1, 0, 0);
            due(1, h.misled(0, 0, 0));
            h.lend(0, 1, 2);
            due(0, h.misled(0, 0, 0));
            h.lend(0, 1, 1);
            due(0, h.misled(0, 0, 0));
            due(0, h.misled(1, 0, 1));
        });
    }

    private static void misledInAFullHouse() {
        edge(23, "the fewest doors (of LODGERS) with another SIGN", () -> {
            // By both, who is calm, cross or in room 7 is not told from another; lodger 5 alone is asleep, by none.
            StringBuilder text = new StringBuilder("room1;".repeat(8) + "lodger0;lodger1;lodger2;lodger3;lodger4;lodger5;");
            for (int lodger = 0; lodger < 5; lodger++) {
                text.append("may").append(lodger).append("at7 0 0;may").append(lodger).append("calm 0 0;");
            }
            ShoeHouse h = Bench.of(text + "may5asleep 0 0;may5at7 0 0;may5cross 0 0;law cross both;law calm both;"
                    + "law asleep none;");
            due(0, h.misled(7, 0, 0));
            due(1, h.misled(5, 0, 0));
            due(32, h.misled(5, 0, 1));
            due(0, h.misled(0, 0, 0));
            due(NONE, h.misled(6, 0, 0));
            due(NONE, h.misled(5, 23, 0));
        });
    }

    private static void misledByNone() {
        edge(23, "None, if there are none; SPENT as above.", () -> {
            // Asleep or out: each sign tells all, and a sign that nothing he may do has leaves no case.
            ShoeHouse h = Bench.of("room 5;room 5;lodger 0;may 0 asleep 0 0;may 0 out 0 0;may 0 calm 1 1;");
            for (int hour = 0; hour < 3; hour++) {
                for (int room = 0; room < 2; room++) {
                    due(NONE, h.misled(room, hour, 0));
                    due(NONE, h.misled(room, hour, 1));
                }
            }
            ShoeHouse empty = Bench.of("room 5;");
            due(NONE, empty.misled(0, 23, 0));
            // Lodger 1 is in his room whatever stands at doors, so it is sure.
            ShoeHouse sure = Bench.of("room 5;room 5;lodger 0;lodger 1;may 0 asleep 0 0;may 0 cross 0 0;may 0 at 1 0 0;"
                    + "may 1 asleep 0 0;may 1 cross 0 0;law cross both;");
            due(NONE, sure.misled(1, 0, 0));
            due(1, sure.misled(0, 0, 0));
        });
        edge(23, "the ROOM isn't SURE (in either way)", () -> {
            // By a left shoe somebody is surely in room 0 and nobody in room 1; by a right one neither is sure.
            ShoeHouse taken = Bench.of("room 5;room 5;lodger 0;may 0 asleep 0 0;may 0 cross 0 0;may 0 at 1 0 0;law out right;");
            due(1, taken.does(0, 0));
            due(1, taken.misled(0, 0, 0));
            due(1, taken.misled(1, 0, 0));
            // By both he is surely not there, by a left shoe he surely is: one sure way for another misleads nobody.
            ShoeHouse out = Bench.of("room 5;room 5;lodger 0;may 0 out 0 0;may 0 asleep 0 0;may 0 cross 0 0;law cross left;");
            due(NONE, out.misled(0, 0, 0));
        });
        edge(23, "NoSuchElementException: also another what.", () -> {
            ShoeHouse h = Bench.of("room 5;room 5;");
            for (int what : new int[] {-1, 2, LEAST, MOST}) {
                noElement(() -> h.misled(0, 0, what));
            }
            noElement(() -> h.misled(2, 0, 0));
            noElement(() -> h.misled(0, 24, 0));
        });
    }
}
