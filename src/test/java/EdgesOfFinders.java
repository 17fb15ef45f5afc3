/** Boundary cases of promises 24 to 29: chances, rounds, where finders rest, the fewest lent. */
final class EdgesOfFinders extends Edges {
    private static final int NONE = ShoeHouse.NONE;
    private static final int LEAST = Integer.MIN_VALUE;
    private static final int MOST = Integer.MAX_VALUE;
    private static final int WHOLE = 27720;

    private EdgesOfFinders() {
    }

    static void all() {
        chance();
        round();
        roundsOfLikeOnes();
        path();
        rests();
        restsOfNone();
        fewest();
        fewestOfShoes();
        fewestOfLenders();
        lender();
    }

    private static void chance() {
        edge(24, "CHANCE by 27720.", () -> {
            // Of one to eleven things that he may do he is calm, and has no shoe then, in one.
            String[] doings = {"calm", "out", "asleep", "cross", "at 1", "at 2", "at 3", "at 4", "at 5", "at 6", "at 7"};
            StringBuilder text = new StringBuilder("room1;".repeat(8) + "lodger0;law calm none;");
            for (int i = 0; i < doings.length; i++) {
                text.append("may0").append(doings[i]).append(' ').append(i).append(" 10;");
            }
            ShoeHouse h = Bench.of(text.toString());
            int[] want = {27720, 13860, 9240, 6930, 5544, 4620, 3960, 3465, 3080, 2772, 2520, 0};
            for (int hour = 0; hour < want.length; hour++) {
                due(want[hour], h.chance(0, hour));
            }
            due(0, h.chance(0, 23));
        });
        edge(24, "of what its LODGER MAY do then so many by which THE SIGN is 0, by all (0 of one without a LODGER)", () -> {
            ShoeHouse h = Bench.of("room 5;room 5;room 5;lodger 0 left;may 0 cross 0 0;may 0 calm 0 0;may 0 at 1 0 0;"
                    + "may 0 at 2 0 0;may 0 cross 1 1;law out right;");
            due(20790, h.chance(0, 0));
            due(27720, h.chance(0, 1));
            due(27720, h.chance(0, 2));
            due(0, h.chance(1, 0));
            due(0, h.chance(2, 23));
            noElement(() -> h.chance(3, 0));
            noElement(() -> h.chance(-1, 0));
            noElement(() -> h.chance(1, 24));
            noElement(() -> h.chance(1, -1));
        });
    }

    private static void round() {
        edge(25, "A BEST ROUND: by 27720; it is kept.", () -> {
            ShoeHouse h = Bench.of("room 99;room 98;room 97;lodger 0;lodger 1;lodger 2;law out none;");
            due(99 * WHOLE, h.round(0, 23, 1));
            dueAll("0*", pathOf(h));
            due((99 + 98 + 97) * WHOLE, h.round(0, 18, 6));
            dueAll("0* 0 0 0 1* 2*", pathOf(h));
            due((98 + 99) * WHOLE, h.round(1, 0, 2));
            dueAll("1* 0*", pathOf(h));
        });
        edge(25, "IllegalArgumentException (behind NoSuchElementException): n, or the HOUR and n are above 24.", () -> {
            ShoeHouse h = Bench.of("room 1;room 1;");
            h.round(1, 5, 3);
            String kept = pathOf(h);
            for (int n : new int[] {0, 7, -1, LEAST, MOST}) {
                illegal(() -> h.round(0, 0, n));
                illegal(() -> h.round(1, 23, n));
                noElement(() -> h.round(2, 0, n));
                noElement(() -> h.round(-1, 0, n));
                noElement(() -> h.round(0, 24, n));
                noElement(() -> h.round(0, -1, n));
            }
            illegal(() -> h.round(0, 23, 2));
            illegal(() -> h.round(0, 19, 6));
            illegal(() -> h.round(0, 22, 3));
            dueAll(kept, pathOf(h));
        });
        edge(25, "A BEST ROUND from a ROOM, from an HOUR on, of n HOURS (1 to 6; none behind 23)", () -> {
            for (int n = 1; n <= 6; n++) {
                ShoeHouse h = Bench.of("room 1;");
                due(0, h.round(0, 24 - n, n));
                dueAll("0 0 0 0 0 0".substring(0, 2 * n - 1), pathOf(h));
            }
            ShoeHouse h = Bench.of("room 1;");
            for (int n = 2; n <= 6; n++) {
                int many = n;
                illegal(() -> h.round(0, 25 - many, many));
            }
            noElement(() -> h.round(0, 24, 1));
        });
        edge(25, "behind each HOUR one goes to a ROOM beside, or stays", () -> {
            // The landing has two ends: from room 0 the last one is seven hours away, not one.
            ShoeHouse h = Bench.of("room 1;".repeat(6) + "room 0;room 99;lodger 7;lodger 0;law out none;");
            due(WHOLE, h.round(0, 0, 6));
            dueAll("0* 0 0 0 0 0", pathOf(h));
            due(99 * WHOLE, h.round(2, 0, 6));
            dueAll("2 3 4 5 6 7*", pathOf(h));
            due(WHOLE, h.round(1, 0, 6));
            dueAll("1 0* 0 0 0 0", pathOf(h));
            due(99 * WHOLE, h.round(7, 0, 2));
            dueAll("7* 6", pathOf(h));
        });
        edge(25, "It is told by 27720 (which 1 to 12 all part).", () -> {
            ShoeHouse h = Bench.of("room 1;".repeat(7) + "room 99;lodger 7;law calm none;may 0 calm 0 0;may 0 out 0 0;"
                    + "may 0 asleep 0 0;may 0 cross 0 0;may 0 at 0 0 0;may 0 at 1 0 0;may 0 at 2 0 0;");
            due(99 * 3960, h.round(7, 0, 1));
        });
    }

    private static void roundsOfLikeOnes() {
        edge(25, "Into each ROOM in which one comes to be one looks once: in that of these HOURS by which GOODS by CHANCE are "
                + "most, of like ones the first (not if they are 0).", () -> {
            ShoeHouse h = Bench.of("room 10;lodger 0;law calm none;may 0 calm 1 1;may 0 out 1 1;may 0 calm 2 3;may 0 calm 5 5;"
                    + "may 0 out 5 5;may 0 cross 5 5;may 0 calm 6 6;may 0 out 6 6;may 0 asleep 6 6;");
            due(10 * WHOLE, h.round(0, 0, 4));
            dueAll("0 0 0* 0", pathOf(h));
            due(5 * WHOLE, h.round(0, 0, 2));
            dueAll("0 0*", pathOf(h));
            due(10 * WHOLE, h.round(0, 3, 4));
            dueAll("0* 0 0 0", pathOf(h));
            due(10 * WHOLE / 3, h.round(0, 5, 2));
            dueAll("0* 0", pathOf(h));
            due(0, h.round(0, 7, 6));
            dueAll("0 0 0 0 0 0", pathOf(h));
        });
        edge(25, "(not if they are 0)", () -> {
            ShoeHouse h = Bench.of("room 0;room 5;lodger 0;lodger 1;law calm none;may 0 calm 0 23;");
            due(0, h.round(1, 0, 3));
            dueAll("1 0 0", pathOf(h));
        });
        edge(25, "All these together are most; of like ones the first as a row of ROOMS.", () -> {
            ShoeHouse h = Bench.of("room 7;room 7;room 7;lodger 0;lodger 1;lodger 2;law out none;");
            due(14 * WHOLE, h.round(1, 0, 2));
            dueAll("1* 0*", pathOf(h));
            due(14 * WHOLE, h.round(1, 0, 3));
            dueAll("1* 0* 0", pathOf(h));
            due(21 * WHOLE, h.round(1, 0, 4));
            dueAll("1* 0* 1 2*", pathOf(h));
            due(21 * WHOLE, h.round(2, 0, 5));
            dueAll("2* 1* 0* 0 0", pathOf(h));
            ShoeHouse none = Bench.of("room 7;room 7;room 7;");
            due(0, none.round(2, 18, 6));
            dueAll("2 1 0 0 0 0", pathOf(none));
        });
        edge(25, "All these together are most; of like ones the first as a row of ROOMS.", () -> {
            // A room on the way is worth less than the one behind it, but both together are most.
            ShoeHouse h = Bench.of("room 50;room 0;room 30;room 30;lodger 0;lodger 2;lodger 3;law out none;");
            due(60 * WHOLE, h.round(1, 0, 3));
            dueAll("1 2* 3*", pathOf(h));
            due(50 * WHOLE, h.round(1, 0, 2));
            dueAll("1 0*", pathOf(h));
            due(80 * WHOLE, h.round(1, 0, 4));
            dueAll("1 0* 1 2*", pathOf(h));
        });
    }

    private static void path() {
        edge(26, "The i-th ROOM of the round that is kept (what 0), whether one looks into it (1: 1).", () -> {
            ShoeHouse h = Bench.of("room 7;room 7;lodger 0;law out none;");
            h.round(1, 18, 6);
            int[] rooms = {1, 0, 0, 0, 0, 0};
            int[] looks = {0, 1, 0, 0, 0, 0};
            for (int i = 0; i < 6; i++) {
                due(rooms[i], h.path(i, 0));
                due(looks[i], h.path(i, 1));
            }
        });
        edge(26, "NoSuchElementException: there is none, another what.", () -> {
            ShoeHouse h = Bench.of("room 7;room 7;");
            noElement(() -> h.path(0, 0));
            h.round(1, 0, 6);
            for (int i : new int[] {-1, 6, LEAST, MOST}) {
                noElement(() -> h.path(i, 0));
                noElement(() -> h.path(i, 1));
            }
            for (int what : new int[] {-1, 2, LEAST, MOST}) {
                noElement(() -> h.path(0, what));
            }
            due(0, h.path(5, 0));
            h.round(1, 0, 1);
            due(1, h.path(0, 0));
            noElement(() -> h.path(1, 0));
            noElement(() -> h.path(1, 1));
            due(0, h.house(0));
            noElement(() -> h.path(0, 0));
        });
    }

    private static void rests() {
        edge(27, "FINDERS' GAME: how many ROWS rest (i NONE); the i-th FINDER's ROOM in the first.", () -> {
            ShoeHouse h = Bench.of("room 4;room 10;lodger 0;lodger 1;law out none;");
            due(1, h.rests(0, 1, NONE));
            due(1, h.rests(0, 1, 0));
            due(1, h.rests(0, 2, NONE));
            due(1, h.rests(0, 2, 0));
            due(1, h.rests(0, 2, 1));
            due(3, h.rests(0, 3, NONE));
            due(0, h.rests(0, 3, 0));
            due(1, h.rests(0, 3, 1));
            due(1, h.rests(23, 3, 2));
            due(0, h.count(2));
        });
        edge(27, "How many rest; the first, as a row.", () -> {
            // Two are in room 1 and one in room 2, whoever that is.
            ShoeHouse h = Bench.of("room 0;room 10;room 4;lodger 0;lodger 1;lodger 2;law out none;");
            due(3, h.rests(0, 3, NONE));
            int[] first = {1, 1, 2};
            for (int i = 0; i < 3; i++) {
                due(first[i], h.rests(0, 3, i));
            }
            due(1, h.rests(0, 2, NONE));
            due(1, h.rests(0, 2, 1));
            due(0, Bench.tell(h, "room 5;lodger 0;law out none;"));
            due(1, h.rests(0, 3, NONE));
            for (int i = 0; i < 3; i++) {
                due(0, h.rests(0, 3, i));
            }
        });
        edge(27, "A ROW rests, if none gains more by another ROOM.", () -> {
            // Half of 10 is as much as 5, a third less: like gains rest.
            ShoeHouse h = Bench.of("room 10;room 5;lodger 0;lodger 1;law out none;");
            due(3, h.rests(0, 2, NONE));
            due(0, h.rests(0, 2, 0));
            due(0, h.rests(0, 2, 1));
            due(3, h.rests(0, 3, NONE));
            due(0, h.rests(0, 3, 1));
            due(1, h.rests(0, 3, 2));
            ShoeHouse full = Bench.of("room 1;".repeat(8));
            due(8, full.rests(0, 1, NONE));
            due(64, full.rests(0, 2, NONE));
            due(512, full.rests(0, 3, NONE));
            due(0, full.rests(0, 3, 2));
        });
        edge(27, "he gains GOODS by CHANCE by 27720, by how many are there, cut down", () -> {
            // Three share 99: 33 is more than 32, but less than 34.
            ShoeHouse h = Bench.of("room 99;room 32;lodger 0;lodger 1;law out none;");
            due(1, h.rests(0, 3, NONE));
            due(0, h.rests(0, 3, 2));
            ShoeHouse more = Bench.of("room 99;room 34;lodger 0;lodger 1;law out none;");
            due(3, more.rests(0, 3, NONE));
            due(1, more.rests(0, 3, 2));
            ShoeHouse half = Bench.of("room 99;room 50;lodger 0;lodger 1;law calm none;may 0 calm 0 0;may 0 out 0 0;"
                    + "may 1 calm 0 0;");
            due(1, half.rests(0, 1, NONE));
            due(1, half.rests(0, 1, 0));
        });
    }

    private static void restsOfNone() {
        edge(27, "IllegalArgumentException (behind no such HOUR): k.", () -> {
            ShoeHouse h = Bench.of("room 1;finder 0;finder 0;finder 0;");
            for (int k : new int[] {0, 4, -1, LEAST, MOST}) {
                illegal(() -> h.rests(0, k, NONE));
                illegal(() -> h.rests(23, k, 0));
                illegal(() -> h.rests(0, k, 9));
                noElement(() -> h.rests(24, k, NONE));
                noElement(() -> h.rests(-1, k, 0));
            }
            illegal(() -> new ShoeHouse().rests(0, 4, 0));
        });
        edge(27, "FINDERS' GAME of k FINDERS (1 to 3) in an HOUR", () -> {
            ShoeHouse h = Bench.of("room 1;");
            for (int k = 1; k <= 3; k++) {
                due(1, h.rests(23, k, NONE));
                due(0, h.rests(0, k, k - 1));
            }
        });
        edge(27, "NoSuchElementException: also no such FINDER of k, none rests.", () -> {
            ShoeHouse h = Bench.of("room 1;finder 0;finder 0;finder 0;");
            for (int k = 1; k <= 3; k++) {
                int many = k;
                noElement(() -> h.rests(0, many, many));
                noElement(() -> h.rests(0, many, -2));
                noElement(() -> h.rests(0, many, MOST));
                noElement(() -> h.rests(0, many, LEAST));
            }
            ShoeHouse none = new ShoeHouse();
            for (int k = 1; k <= 3; k++) {
                int many = k;
                due(0, none.rests(0, k, NONE));
                noElement(() -> none.rests(0, many, 0));
                noElement(() -> none.rests(0, many, many));
            }
        });
    }

    private static void fewest() {
        edge(28, "FEWEST LENT: how many; NONE: none; it is kept, if there is one.", () -> {
            ShoeHouse h = Bench.of("room 1;room 1;lodger 0 left;lodger 1;may 0 cross 0 1;may 1 asleep 0 0;may 1 out 1 1;"
                    + "may 0 asleep 2 2;");
            due(1, h.fewest(0, 0));
            due(12, h.lender(0));
            due(NONE, h.fewest(1, 1));
            due(12, h.lender(0));
            due(0, h.fewest(2, 2));
            due(NONE, h.lender(0));
            due(0, h.count(4));
        });
        edge(28, "IllegalArgumentException: HOURS not 0 to 23, b below a.", () -> {
            ShoeHouse h = Bench.of("room 1;lodger 0 left;may 0 cross 23 23;");
            due(0, h.fewest(0, 0));
            due(NONE, h.fewest(23, 23));
            due(NONE, h.fewest(0, 23));
            due(0, h.fewest(0, 22));
            int[][] wrong = {{-1, 0}, {-1, -1}, {0, 24}, {24, 24}, {23, 24}, {5, 4}, {23, 0}, {LEAST, MOST}, {MOST, MOST},
                {0, LEAST}, {0, -1}};
            for (int[] hours : wrong) {
                illegal(() -> h.fewest(hours[0], hours[1]));
            }
            due(NONE, h.lender(0));
        });
        edge(28, "FEWEST LENT for HOURS from a to b of THE DAY: with what is LENT already", () -> {
            // If he is cross, he wants a right shoe in hour 5 alone, which the other one needs in hour 6 alone.
            ShoeHouse h = Bench.of("room 1;room 1;lodger 0 left;lodger 1;may 0 asleep 0 23;may 0 cross 5 5;may 1 calm 0 5;"
                    + "may 1 cross 6 6;may 1 calm 7 23;");
            due(0, h.fewest(0, 23));
            h.draw(1 << 16);
            due(2, h.does(0, 5));
            due(0, h.fewest(0, 4));
            due(1, h.fewest(0, 5));
            due(1, h.fewest(5, 5));
            due(NONE, h.fewest(5, 6));
            due(0, h.fewest(6, 23));
            due(1, h.lend(1, 0, 2));
            due(0, h.fewest(0, 5));
            due(1, h.fewest(6, 6));
            due(2, h.lender(1));
        });
    }

    private static void fewestOfShoes() {
        edge(28, "each LODGER whose SIGN is 0 in some of these HOURS, THE LAW's SIGN for what he does then being another", () -> {
            ShoeHouse h = Bench.of("room 1;room 1;lodger 0 left;lodger 1;may 0 cross 0 0;may 0 calm 1 1;may 1 calm 0 2;"
                    + "law calm none;");
            due(0, h.fewest(1, 1));
            due(NONE, h.lender(0));
            due(1, h.fewest(0, 1));
            due(12, h.lender(0));
            due(0, h.fewest(2, 2));
            due(1, h.fewest(0, 2));
        });
        edge(28, "is to be lent one shoe (left or right; of which he has none)", () -> {
            // Without any, cross in one hour and asleep in another, he wants two: one is not enough.
            ShoeHouse h = Bench.of("room 1;room 1;lodger 0;lodger 1;may 0 cross 0 0;may 0 asleep 1 1;may 0 out 2 2;"
                    + "may 1 calm 0 2;law calm none;");
            h.lend(0, 1, 1);
            h.lend(0, 1, 2);
            due(1, h.fewest(0, 0));
            due(12, h.lender(0));
            due(1, h.fewest(1, 1));
            due(11, h.lender(0));
            due(NONE, h.fewest(0, 1));
            due(1, h.fewest(1, 2));
            due(11, h.lender(0));
            due(1, h.fewest(2, 2));
            due(11, h.lender(0));
        });
        edge(28, "so that his SIGN is 0 in none of these HOURS (that THE LAW has another SIGN for)", () -> {
            // In hour 1 no law asks for a shoe; in hour 2 any one will do; a left one is wanted in hour 3.
            ShoeHouse h = Bench.of("room 1;room 1;lodger 0 right;lodger 1;may 0 cross 0 0;may 0 calm 1 1;may 0 out 2 2;"
                    + "may 0 asleep 3 3;may 1 calm 0 3;law calm none;");
            due(1, h.fewest(0, 3));
            due(11, h.lender(0));
            due(1, h.lend(0, 1, 2));
            due(1, h.fewest(1, 3));
            due(11, h.lender(0));
            due(1, h.fewest(0, 2));
            due(12, h.lender(0));
            due(NONE, h.fewest(0, 3));
        });
        edge(28, "the lender, 10 by him and the shoe; how many they are, and the first as a row; none, if it can't be", () -> {
            // Lodger 0, who is out, can use either shoe: the left one is first, unless lodger 1 can use that alone.
            ShoeHouse h = Bench.of("room 1;room 1;room 1;lodger 0 right;lodger 1 right;lodger 2 left;may 0 out 0 1;"
                    + "may 1 asleep 0 0;may 1 cross 1 1;may 0 asleep 2 2;may 1 asleep 2 2;may 2 calm 0 2;law calm none;");
            h.lend(0, 2, 2);
            h.lend(1, 2, 2);
            due(2, h.fewest(0, 0));
            due(22, h.lender(0));
            due(21, h.lender(1));
            due(2, h.fewest(1, 1));
            due(21, h.lender(0));
            due(22, h.lender(1));
            due(NONE, h.lender(2));
            due(NONE, h.fewest(2, 2));
            due(21, h.lender(0));
        });
    }

    private static void fewestOfLenders() {
        edge(28, "by one who has it and needs it in none of these HOURS (THE LAW's SIGN for what he does hasn't it)", () -> {
            ShoeHouse h = Bench.of("room 1;room 1;room 1;lodger 0 right;lodger 1 left;lodger 2 left;may 0 asleep 0 9;"
                    + "may 1 calm 0 3;may 1 cross 4 4;may 2 cross 0 2;may 2 calm 3 3;law calm both;law cross none;");
            due(1, h.fewest(0, 2));
            due(21, h.lender(0));
            due(NONE, h.fewest(0, 3));
            due(NONE, h.fewest(3, 3));
            due(1, h.fewest(4, 4));
            due(11, h.lender(0));
            due(NONE, h.fewest(5, 5));
            // In the first of two hours he needs it, in the last one he doesn't.
            due(NONE, h.fewest(3, 4));
        });
        edge(28, "each shoe once", () -> {
            ShoeHouse h = Bench.of("room 1;room 1;room 1;lodger 0 right;lodger 1 right;lodger 2 left;may 0 asleep 0 0;"
                    + "may 1 asleep 0 0;may 2 cross 0 0;law cross none;");
            due(NONE, h.fewest(0, 0));
            ShoeHouse two = Bench.of("room 1;room 1;room 1;room 1;lodger 0 right;lodger 1 right;lodger 2 left;lodger 3 left;"
                    + "may 0 asleep 0 0;may 1 asleep 0 0;may 2 cross 0 0;may 3 cross 0 0;law cross none;");
            due(2, two.fewest(0, 0));
            due(21, two.lender(0));
            due(31, two.lender(1));
            due(1, two.lend(3, 2, 1));
            due(2, two.fewest(0, 0));
            due(21, two.lender(0));
            due(21, two.lender(1));
            ShoeHouse ahead = Bench.of("room 1;room 1;room 1;room 1;lodger 0 left;lodger 1 left;lodger 2 right;lodger 3 right;"
                    + "may 0 cross 0 0;may 1 cross 0 0;may 2 asleep 0 0;may 3 asleep 0 0;law cross none;");
            due(2, ahead.fewest(0, 0));
            due(1, ahead.lender(2));
            due(11, ahead.lender(3));
        });
        edge(28, "none, if it can't be", () -> {
            // Lodgers 0 and 1 have no shoes and are out; lodger 2 has as many to spare as were lent to him.
            ShoeHouse h = Bench.of("room 1;room 1;room 1;room 1;lodger 0 left;lodger 1 right;lodger 2 left;lodger 3 right;"
                    + "may 2 calm 0 9;may 3 calm 1 1;may 3 cross 2 2;may 3 asleep 3 3;may 1 calm 4 4;law calm none;");
            h.lend(0, 3, 1);
            h.lend(1, 3, 2);
            due(NONE, h.fewest(0, 0));
            due(2, h.fewest(1, 1));
            due(21, h.lender(0));
            due(31, h.lender(1));
            due(2, h.fewest(2, 2));
            due(21, h.lender(0));
            due(31, h.lender(1));
            due(2, h.fewest(3, 3));
            due(21, h.lender(0));
            due(32, h.lender(1));
            due(1, h.fewest(4, 4));
            due(21, h.lender(0));
            due(NONE, h.fewest(0, 1));
        });
        edge(28, "none, if it can't be", () -> {
            // Lodgers 0 to 2 lent theirs to lodger 4, who is out; lodger 3 has a left and a right one to spare.
            ShoeHouse h = Bench.of("room 1;".repeat(5) + "lodger 0 left;lodger 1 right;lodger 2 left;lodger 3;lodger 4;"
                    + "may 0 asleep 0 1;may 1 cross 0 2;may 2 calm 1 3;may 0 calm 4 4;may 1 asleep 3 3;may 1 cross 4 4;"
                    + "may 0 cross 5 5;may 1 cross 5 5;may 2 calm 5 5;may 3 calm 0 3;may 3 asleep 4 4;may 3 calm 5 6;"
                    + "law calm none;");
            h.lend(0, 4, 1);
            h.lend(1, 4, 2);
            h.lend(2, 4, 1);
            int[][] rows = {null, {31, 32}, {31, 32}, {32, 31}, null, null, null};
            for (int hour = 0; hour < rows.length; hour++) {
                if (rows[hour] == null) {
                    due(NONE, h.fewest(hour, hour));
                } else {
                    due(2, h.fewest(hour, hour));
                    due(rows[hour][0], h.lender(0));
                    due(rows[hour][1], h.lender(1));
                }
            }
        });
        edge(28, "how many they are, and the first as a row", () -> {
            // Lodgers 0 and 1 can use either shoe, lodger 2 a left one alone; lodger 3 has two of each.
            ShoeHouse h = Bench.of("room 1;room 1;room 1;room 1;lodger 0 left;lodger 1 right;lodger 2 left;lodger 3 right;"
                    + "may 2 asleep 0 0;may 3 calm 0 0;law calm none;");
            h.lend(0, 3, 1);
            h.lend(1, 3, 2);
            h.lend(2, 3, 1);
            due(3, h.fewest(0, 0));
            due(31, h.lender(0));
            due(32, h.lender(1));
            due(31, h.lender(2));
        });
        edge(28, "by one who has it", () -> {
            // Two who want another shoe each have the one that the other wants.
            ShoeHouse h = Bench.of("room 1;room 1;lodger 0 right;lodger 1 left;may 0 asleep 0 0;may 1 cross 0 0;");
            due(2, h.fewest(0, 0));
            due(11, h.lender(0));
            due(2, h.lender(1));
        });
        edge(28, "FEWEST LENT: how many; NONE: none; it is kept, if there is one.", () -> {
            // Five want a left shoe of the sixth, who has six.
            ShoeHouse h = Bench.of("room 1;".repeat(6) + "lodger 0;lodger 1;lodger 2;lodger 3;lodger 4;lodger 5;may 0 asleep 0 0;"
                    + "may 1 asleep 0 0;may 2 asleep 0 0;may 3 asleep 0 0;may 4 calm 0 0;may 5 cross 0 0;");
            for (int lodger = 0; lodger < 5; lodger++) {
                due(lodger + 1, h.lend(lodger, 5, 1));
            }
            due(5, h.fewest(0, 0));
            for (int lodger = 0; lodger < 5; lodger++) {
                due(51, h.lender(lodger));
            }
            due(NONE, h.lender(5));
            due(5, h.count(4));
            due(0, new ShoeHouse().fewest(0, 23));
        });
    }

    private static void lender() {
        edge(29, "The lender and shoe for a LODGER in the lending that is kept: 10 by the lender and the shoe; "
                + "NONE: he is lent none.", () -> {
            ShoeHouse h = Bench.of("room 1;room 1;lodger 0 right;lodger 1 left;may 0 asleep 0 0;may 1 calm 0 0;law calm none;");
            due(1, h.fewest(0, 0));
            due(11, h.lender(0));
            due(NONE, h.lender(1));
            h.lend(1, 0, 1);
            due(11, h.lender(0));
        });
        edge(29, "NoSuchElementException: also none is kept.", () -> {
            ShoeHouse h = Bench.of("room 1;lodger 0 left;may 0 cross 0 0;");
            noElement(() -> h.lender(0));
            due(NONE, h.fewest(0, 0));
            noElement(() -> h.lender(0));
            illegal(() -> h.fewest(1, 0));
            noElement(() -> h.lender(0));
            due(0, h.fewest(1, 1));
            due(NONE, h.lender(0));
            noElement(() -> h.lender(1));
            noElement(() -> h.lender(-1));
            Bench.tell(h, "x");
            due(NONE, h.lender(0));
            Bench.tell(h, "room 1;lodger 0;");
            noElement(() -> h.lender(0));
        });
    }
}
