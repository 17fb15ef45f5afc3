/** Boundary cases of promises 10 to 18, 34 and 35: shoes lent, days, finders, what is seen, the image. */
final class EdgesOfDay extends Edges {
    private static final int NONE = ShoeHouse.NONE;
    private static final int LEAST = Integer.MIN_VALUE;
    private static final int MOST = Integer.MAX_VALUE;

    private EdgesOfDay() {
    }

    static void all() {
        lend();
        back();
        draw();
        does();
        sign();
        look();
        theft();
        see();
        forget();
        image();
        restore();
    }

    private static void lend() {
        edge(10, "A shoe (1 left, 2 right) is LENT: how many are.", () -> {
            ShoeHouse h = Bench.of("room 1;room 1;lodger 0;lodger 1;");
            due(1, h.lend(0, 1, 1));
            due(0, h.lodger(0, 1));
            due(1, h.lodger(0, 2));
            due(2, h.lodger(1, 1));
            due(2, h.lend(0, 1, 2));
            due(0, h.lodger(0, 2));
            due(2, h.lodger(1, 2));
        });
        edge(10, "NONE (STATUS 1): there are 12, he lends to himself, it is no shoe, he has none.", () -> {
            ShoeHouse h = Bench.of("room 1;room 1;lodger 0;lodger 1;");
            for (int i = 0; i < 12; i++) {
                due(i + 1, h.lend(i % 2, 1 - i % 2, 1));
            }
            due(0, h.count(9));
            due(NONE, h.lend(0, 1, 1));
            due(NONE, h.lend(0, 1, 2));
            due(2, h.count(9));
            due(12, h.count(4));
            due(1, h.lodger(0, 1));
            due(1, h.lodger(0, 2));
            due(11, h.back());
            due(12, h.lend(0, 1, 2));
        });
        edge(10, "he lends to himself, it is no shoe, he has none", () -> {
            ShoeHouse h = Bench.of("room 1;room 1;lodger 0;lodger 1 left;");
            due(NONE, h.lend(0, 0, 1));
            due(NONE, h.lend(1, 1, 1));
            due(2, h.count(9));
            for (int shoe : new int[] {0, 3, -1, LEAST, MOST}) {
                due(NONE, h.lend(0, 1, shoe));
            }
            due(7, h.count(9));
            due(NONE, h.lend(1, 0, 2));
            due(8, h.count(9));
            due(0, h.count(4));
            due(1, h.lodger(0, 1));
            due(1, h.lodger(0, 2));
            due(1, h.lodger(1, 1));
            due(1, h.lend(1, 0, 1));
            due(NONE, h.lend(1, 0, 1));
            due(9, h.count(9));
        });
        edge(10, "LENT (at most 12): a LODGER lends another one a left, or a right one (1, 2): "
                + "he has one of these at least", () -> {
            ShoeHouse h = Bench.of("room 1;room 1;room 1;lodger 0;lodger 1;lodger 2;");
            due(1, h.lend(0, 1, 1));
            due(2, h.lend(1, 2, 1));
            due(3, h.lend(1, 2, 1));
            due(NONE, h.lend(1, 2, 1));
            due(3, h.lodger(2, 1));
            due(4, h.lend(2, 0, 1));
        });
        edge(10, "NoSuchElementException (ahead): no such LODGERS.", () -> {
            ShoeHouse h = Bench.of("room 1;room 1;lodger 0;lodger 1 left;");
            for (int lodger : new int[] {-1, 2, LEAST, MOST}) {
                noElement(() -> h.lend(lodger, 0, 1));
                noElement(() -> h.lend(0, lodger, 1));
                noElement(() -> h.lend(lodger, lodger, 1));
                noElement(() -> h.lend(lodger, 0, 0));
                noElement(() -> h.lend(0, lodger, 3));
                noElement(() -> h.lend(1, lodger, 2));
            }
            due(0, h.count(9));
            due(0, h.count(4));
            for (int i = 0; i < 12; i++) {
                due(i + 1, h.lend(i % 2, 1 - i % 2, 1));
            }
            noElement(() -> h.lend(2, 0, 1));
            noElement(() -> h.lend(0, 2, 1));
            due(0, h.count(9));
        });
    }

    private static void back() {
        edge(11, "What was LENT last is undone: how many are left.", () -> {
            ShoeHouse h = Bench.of("room 1;room 1;room 1;lodger 0;lodger 1;lodger 2;");
            h.lend(0, 1, 2);
            h.lend(1, 2, 2);
            h.lend(1, 2, 2);
            due(2, h.back());
            due(2, h.lodger(2, 2));
            due(1, h.lodger(1, 2));
            due(1, h.back());
            due(2, h.lodger(1, 2));
            due(0, h.back());
            for (int lodger = 0; lodger < 3; lodger++) {
                due(1, h.lodger(lodger, 1));
                due(1, h.lodger(lodger, 2));
            }
        });
        edge(11, "it is so till it is undone (the last one first)", () -> {
            ShoeHouse h = Bench.of("room 1;room 1;lodger 0;lodger 1;");
            h.lend(0, 1, 1);
            h.draw(4);
            h.see(0, 1, 1);
            h.forget();
            due(NONE, h.lend(0, 1, 1));
            due(0, h.lodger(0, 1));
            h.lend(1, 0, 2);
            due(1, h.back());
            due(1, h.lodger(1, 2));
            due(0, h.lodger(0, 1));
        });
        edge(11, "NONE: there is none.", () -> {
            ShoeHouse h = Bench.of("room 1;room 1;lodger 0;lodger 1;");
            due(NONE, h.back());
            h.lend(0, 1, 1);
            due(0, h.back());
            due(NONE, h.back());
            due(0, h.count(4));
            due(0, h.count(9));
            due(1, h.lodger(0, 1));
            due(1, h.lodger(1, 1));
        });
    }

    /** Lodger 0 may do all eleven things at any hour, lodger 1 one alone, lodger 2 two in the first and the last. */
    private static ShoeHouse houseToDraw() {
        StringBuilder text = new StringBuilder("room1;".repeat(8) + "lodger0;lodger1;lodger2;");
        for (int room = 7; room > 0; room--) {
            text.append("may0at").append(room).append(" 0 23;");
        }
        for (String doing : Model.DOINGS) {
            text.append("may0").append(doing).append(" 0 23;");
        }
        return Bench.of(text + "may1calm 0 23;may1calm 0 20;may2at0 0 0;may2cross 0 0;may2cross 23 23;may2asleep 23 23;");
    }

    private static void draw() {
        int[] zero = {0, 0, 14, 0, 16, 14, 14, 0, 13, 14, 3, 12, 1, 0, 3, 13, 16, 17, 13, 3, 14, 16, 15, 16};
        int[] minusOne = {1, 13, 17, 1, 0, 12, 16, 2, 14, 11, 0, 2, 16, 12, 15, 11, 16, 14, 0, 0, 15, 11, 1, 12};
        edge(12, "THE DAY is drawn by a seed.", () -> {
            ShoeHouse h = houseToDraw();
            int[] first = {15, 11, 3, 16, 13, 16, 12, 16, 12, 17, 14, 16, 11, 13, 16, 16, 15, 2, 2, 12, 13, 2, 11, 11};
            drawn(h, 1, first, 2, 1);
            drawn(h, 65536, new int[] {2, 16, 17, 2, 3, 16, 14, 3, 14, 16, 17, 15, 3, 16, 15, 14, 16, 17, 13, 16, 12, 3, 3, 11},
                    10, 1);
            drawn(h, 1, first, 2, 1);
        });
        edge(12, "A seed becomes itself times 1103515245 and 12345 (an int that wraps)", () -> {
            drawn(houseToDraw(), 0, zero, 2, 2);
            drawn(houseToDraw(), -1, minusOne, 10, 2);
        });
        edge(12, "a DRAW of n is its bits 16 to 30 MOD n then", () -> {
            // Bit 31 of a seed never comes down to bit 30, so the least and the greatest int draw like 0 and -1.
            drawn(houseToDraw(), LEAST, zero, 2, 2);
            drawn(houseToDraw(), MOST, minusOne, 10, 2);
        });
        edge(12, "of what he MAY do then, each once, from the least number on, the one by a DRAW of how many these are "
                + "(no DRAW, if there is one alone)", () -> {
            // The bits behind seed 4 are 1817 and 24166. A DRAW for lodger 0, who has one alone, would leave lodger 1
            // the even one; and if he had a doing thrice, 1817 MOD 4 would be 1, which is that doing too.
            ShoeHouse h = Bench.of("room 1;room 1;lodger 0;lodger 1;may 0 asleep 0 0;may 0 asleep 0 0;may 1 calm 0 0;"
                    + "may 1 asleep 0 0;may 1 asleep 0 0;may 1 asleep 0 0;");
            h.draw(4);
            due(1, h.does(0, 0));
            due(3, h.does(1, 0));
            h.draw(0);
            due(1, h.does(1, 0));
        });
        edge(12, "of HOURS 0 to 23, in each of LODGERS 0 on, what he does", () -> {
            // Six lodgers, the last one of whom alone has two things to do, in the last hour.
            ShoeHouse h = Bench.of(EdgesOfText.FULL + "may 5 calm 23 23;may 5 asleep 23 23;");
            h.draw(1 << 16);
            for (int lodger = 0; lodger < 6; lodger++) {
                due(0, h.does(lodger, 0));
                due(lodger == 5 ? 3 : 0, h.does(lodger, 23));
            }
            h.draw(0);
            due(1, h.does(5, 23));
        });
        edge(12, "of HOURS 0 to 23, in each of LODGERS 0 on, what he does", () -> {
            // Seed 1: 16838, 5758, 10113, 17515 are the bits of the first four DRAWS.
            ShoeHouse h = Bench.of("room 1;room 1;lodger 0;lodger 1;may 0 out 0 23;may 0 asleep 0 23;may 0 cross 0 23;"
                    + "may 1 out 0 23;may 1 asleep 0 23;may 1 cross 0 23;may 1 calm 0 23;");
            h.draw(1);
            due(16838 % 3, h.does(0, 0));
            due(5758 % 4, h.does(1, 0));
            due(10113 % 3, h.does(0, 1));
            due(17515 % 4, h.does(1, 1));
        });
    }

    private static void drawn(ShoeHouse h, int seed, int[] days, int first, int last) {
        h.draw(seed);
        for (int hour = 0; hour < 24; hour++) {
            due(days[hour], h.does(0, hour));
            due(3, h.does(1, hour));
            due(hour == 0 ? first : hour == 23 ? last : 0, h.does(2, hour));
        }
    }

    private static void does() {
        edge(13, "What a LODGER does in an HOUR of THE DAY.", () -> {
            ShoeHouse h = Bench.of("room 1;room 1;lodger 0;lodger 1;may 0 at 1 0 0;may 0 calm 23 23;may 1 cross 23 23;");
            due(11, h.does(0, 0));
            due(0, h.does(0, 1));
            due(3, h.does(0, 23));
            due(2, h.does(1, 23));
            noElement(() -> h.does(2, 0));
            noElement(() -> h.does(-1, 0));
            noElement(() -> h.does(0, 24));
            noElement(() -> h.does(0, -1));
        });
        edge(13, "At first, and with each HOUSE, each does the least that he MAY.", () -> {
            ShoeHouse h = Bench.of("room 1;room 1;lodger 1;may 0 at 0 0 23;may 0 calm 0 23;may 0 cross 0 0;");
            due(2, h.does(0, 0));
            due(3, h.does(0, 23));
            h.draw(10);
            due(0, Bench.tell(h, "room 1;room 1;lodger 1;may 0 at 0 0 23;may 0 calm 0 22;"));
            for (int hour = 0; hour < 23; hour++) {
                due(3, h.does(0, hour));
            }
            due(10, h.does(0, 23));
        });
    }

    private static void sign() {
        edge(14, "THE SIGN at a ROOM in an HOUR of THE DAY.", () -> {
            ShoeHouse h = Bench.of("room 1;room 1;lodger 1;may 0 asleep 0 0;may 0 cross 1 22;may 0 at 0 23 23;law out right;");
            due(1, h.sign(1, 0));
            due(2, h.sign(1, 1));
            due(2, h.sign(1, 23));
            noElement(() -> h.sign(2, 0));
            noElement(() -> h.sign(-1, 0));
            noElement(() -> h.sign(1, 24));
            noElement(() -> h.sign(1, -1));
        });
        edge(14, "THE SIGN at a LODGER's door is of THE LAW's SIGN for what he does as much as he has shoes for "
                + "(of 3 what he has; a left wants a left one).", () -> {
            ShoeHouse h = Bench.of("room 1;room 1;room 1;lodger 0;lodger 1 left;lodger 2 right;law asleep none;law calm both;");
            int[][] want = {{3, 0, 2, 3}, {1, 0, 0, 1}, {2, 0, 2, 2}};
            for (int lodger = 0; lodger < 3; lodger++) {
                for (int does = 0; does < 4; does++) {
                    due(want[lodger][does], h.says(lodger, does));
                }
            }
            h.lend(1, 2, 1);
            due(0, h.says(1, 3));
            due(3, h.says(2, 3));
            due(2, h.says(2, 2));
            due(0, h.sign(1, 0));
            due(3, h.sign(2, 0));
            h.lend(0, 2, 1);
            due(2, h.sign(0, 0));
            due(3, h.sign(2, 0));
        });
        edge(14, "At a ROOM without a LODGER it is 3.", () -> {
            ShoeHouse h = Bench.of("room 1;room 1;lodger 0;may 0 at 1 0 23;law out none;law asleep none;law cross none;"
                    + "law calm none;");
            due(0, h.sign(0, 0));
            due(3, h.sign(1, 0));
            due(3, h.sign(1, 23));
        });
    }

    private static void look() {
        edge(15, "A FINDER looks into a ROOM in an HOUR from now on: where he did.", () -> {
            ShoeHouse h = Bench.of("room 1;room 1;room 1;finder 2;finder 2;");
            due(2, h.look(0, 0, 1));
            due(1, h.look(0, 0, 0));
            due(0, h.look(0, 0, 0));
            due(2, h.look(0, 23, 0));
            due(2, h.look(1, 0, 0));
            due(0, h.look(0, 23, 2));
        });
        edge(15, "in which ROOM each FINDER looks in each HOUR (at first where he begins)", () -> {
            ShoeHouse h = Bench.of("room 1;room 1;room 1;finder 2;finder 0;finder 1;");
            int[] begins = {2, 0, 1};
            for (int finder = 0; finder < 3; finder++) {
                for (int hour = 0; hour < 24; hour++) {
                    due(begins[finder], h.look(finder, hour, begins[finder]));
                }
            }
        });
        edge(15, "NoSuchElementException: also no such FINDER (as everywhere).", () -> {
            ShoeHouse h = Bench.of("room 1;room 1;finder 1;finder 1;");
            for (int finder : new int[] {-1, 2, LEAST, MOST}) {
                noElement(() -> h.look(finder, 0, 0));
            }
            for (int hour : new int[] {-1, 24, LEAST, MOST}) {
                noElement(() -> h.look(1, hour, 0));
            }
            for (int room : new int[] {-1, 2, LEAST, MOST}) {
                noElement(() -> h.look(1, 0, room));
            }
            due(1, h.look(1, 0, 1));
            ShoeHouse full = Bench.of(EdgesOfText.FULL);
            noElement(() -> full.look(3, 0, 0));
            ShoeHouse none = Bench.of("room 1;");
            noElement(() -> none.look(0, 0, 0));
        });
    }

    private static void theft() {
        edge(16, "THE THEFTS: who took a ROOM's GOODS (what 0), in which HOUR (1); NONE: nobody.", () -> {
            ShoeHouse h = Bench.of("room 5;room 5;room 5;lodger 0;lodger 1;lodger 2;finder 0;finder 1;law calm none;"
                    + "may 0 calm 0 23;may 1 calm 23 23;may 2 calm 0 23;");
            due(0, h.theft(0, 0));
            due(0, h.theft(0, 1));
            due(1, h.theft(1, 0));
            due(23, h.theft(1, 1));
            due(NONE, h.theft(2, 0));
            due(NONE, h.theft(2, 1));
            ShoeHouse none = Bench.of("room 5;lodger 0;law out none;");
            due(NONE, none.theft(0, 0));
            due(NONE, none.theft(0, 1));
        });
        edge(16, "THE THEFTS of THE DAY, HOUR by HOUR, of one HOUR by FINDERS: he takes the GOODS (if there are any left, "
                + "and more than 0), if THE SIGN there is 0 in that HOUR.", () -> {
            ShoeHouse h = Bench.of("room 1;room 0;room 5;lodger 0;lodger 1;finder 2;finder 2;finder 2;law out none;"
                    + "may 0 asleep 0 3;");
            for (int hour = 0; hour < 24; hour++) {
                h.look(0, hour, 1);
            }
            due(NONE, h.theft(1, 0));
            due(NONE, h.theft(1, 1));
            h.look(1, 3, 0);
            due(NONE, h.theft(0, 0));
            h.look(2, 9, 0);
            due(2, h.theft(0, 0));
            due(9, h.theft(0, 1));
            h.look(1, 10, 0);
            h.look(0, 10, 0);
            due(2, h.theft(0, 0));
            h.look(1, 9, 0);
            due(1, h.theft(0, 0));
            due(9, h.theft(0, 1));
            h.look(2, 4, 0);
            due(2, h.theft(0, 0));
            due(4, h.theft(0, 1));
        });
        edge(16, "if THE SIGN there is 0 in that HOUR", () -> {
            // Of signs 1, 2 and 3 none is 0, nor is that of a room without a lodger.
            ShoeHouse h = Bench.of("room 5;room 5;lodger 0 left;finder 0;finder 1;may 0 asleep 0 23;may 0 cross 9 9;");
            due(NONE, h.theft(0, 0));
            due(NONE, h.theft(1, 0));
            h.draw(0);
            due(1, h.does(0, 9));
            h.draw(1 << 16);
            due(2, h.does(0, 9));
            due(0, h.theft(0, 0));
            due(9, h.theft(0, 1));
        });
        edge(16, "NoSuchElementException: also another what.", () -> {
            ShoeHouse h = Bench.of("room 5;room 5;");
            for (int what : new int[] {-1, 2, LEAST, MOST}) {
                noElement(() -> h.theft(0, what));
            }
            noElement(() -> h.theft(2, 0));
            noElement(() -> h.theft(-1, 1));
        });
    }

    private static void see() {
        edge(17, "SEEN: THE SIGN at a ROOM in an HOUR: how many are.", () -> {
            ShoeHouse h = Bench.of(EdgesOfText.FULL);
            for (int room = 0; room < 8; room++) {
                due(room + 1, h.see(room, 23, room % 4));
            }
            due(0, h.count(10));
            due(255, h.count(6));
        });
        edge(17, "NONE (STATUS 2): it is no SIGN, that ROOM is SEEN in that HOUR already.", () -> {
            ShoeHouse h = Bench.of("room 1;room 1;");
            for (int sign : new int[] {-1, 4, LEAST, MOST}) {
                due(NONE, h.see(0, 0, sign));
            }
            due(4, h.count(10));
            due(NONE, h.count(5));
            due(1, h.see(0, 7, 3));
            due(NONE, h.see(0, 7, 3));
            due(NONE, h.see(0, 7, 0));
            due(6, h.count(10));
            due(1, h.cases());
            due(2, h.see(1, 7, 0));
            due(0, h.cases());
        });
        edge(17, "it is no SIGN", () -> {
            // A refused call of another hour does not begin anew.
            ShoeHouse h = Bench.of("room 1;room 1;");
            h.see(0, 7, 3);
            due(NONE, h.see(1, 8, 4));
            due(7, h.count(5));
            due(1, h.count(6));
            for (int sign = 0; sign < 4; sign++) {
                due(1, h.see(0, 8 + sign, sign));
            }
        });
        edge(17, "SEEN: THE SIGNS of some ROOMS in an HOUR (one HOUR at a time: another one SEEN begins anew).", () -> {
            ShoeHouse h = Bench.of("room 1;room 1;room 1;");
            due(1, h.see(0, 0, 0));
            due(2, h.see(1, 0, 3));
            due(0, h.cases());
            due(1, h.see(2, 1, 3));
            due(1, h.count(5));
            due(4, h.count(6));
            due(1, h.cases());
            due(1, h.see(0, 0, 3));
            due(1, h.count(6));
            due(2, h.see(1, 0, 3));
        });
        edge(17, "that ROOM is SEEN in that HOUR already", () -> {
            ShoeHouse h = Bench.of("room 1;room 1;");
            noElement(() -> h.see(2, 0, 9));
            noElement(() -> h.see(-1, 0, 9));
            noElement(() -> h.see(0, 24, 9));
            noElement(() -> h.see(0, -1, 9));
            due(0, h.count(10));
            h.see(0, 5, 3);
            h.forget();
            due(1, h.see(0, 5, 3));
            due(0, h.count(10));
        });
    }

    private static void forget() {
        edge(18, "Nothing is SEEN: how many were.", () -> {
            ShoeHouse h = Bench.of(EdgesOfText.FULL);
            due(0, h.forget());
            for (int room = 0; room < 8; room++) {
                h.see(room, 5, 0);
            }
            due(8, h.forget());
            due(0, h.forget());
            due(NONE, h.count(5));
            due(0, h.count(6));
            due(1, h.cases());
            h.see(3, 5, 3);
            due(1, h.forget());
        });
    }

    private static void image() {
        edge(34, "What is LENT, SEEN, THE DAY and ROUNDS are kept as an image, in place of another one.", () -> {
            ShoeHouse h = Bench.of("room 1;room 1;lodger 0;lodger 1;finder 0;may 0 asleep 0 23;may 0 cross 0 23;");
            h.image();
            h.lend(0, 1, 1);
            h.see(1, 4, 2);
            h.draw(1);
            h.look(0, 9, 1);
            String then = stateOf(h);
            h.image();
            h.back();
            h.forget();
            h.draw(2);
            h.look(0, 9, 0);
            restores(true, h);
            dueAll(then, stateOf(h));
            due(1, h.look(0, 9, 1));
            due(0, h.back());
            due(1, h.lodger(0, 1));
        });
        edge(34, "What is LENT, SEEN, THE DAY and ROUNDS are kept as an image, in place of another one.", () -> {
            // What is kept otherwise (a round, a lending, STATUS, the tape) is not the image's.
            ShoeHouse h = Bench.of("room 1;room 1;lodger 0;lodger 1;");
            h.image();
            h.round(1, 0, 2);
            due(0, h.fewest(0, 0));
            h.lend(0, 0, 0);
            h.see(0, 0, 9);
            Bench.tell(h, "x");
            h.feed(0, 0, 0, 0, 0);
            restores(true, h);
            dueAll("1 0", pathOf(h));
            due(NONE, h.lender(0));
            for (int what = 8; what <= 10; what++) {
                due(1, h.count(what));
            }
            due(20, h.count(7));
            due(0, h.fault());
        });
        edge(34, "What is LENT, SEEN, THE DAY and ROUNDS are kept as an image, in place of another one.",
                EdgesOfDay::imageOfAFullHouse);
        edge(34, "in place of another one", () -> {
            ShoeHouse h = Bench.of("room 1;room 1;lodger 0;lodger 1;");
            h.lend(0, 1, 1);
            h.image();
            h.back();
            h.image();
            h.lend(0, 1, 2);
            restores(true, h);
            due(0, h.count(4));
            due(1, h.lodger(0, 1));
        });
    }

    /** The last lodger, finder, room and hour are kept as the first ones are, and what was lent by whom. */
    private static void imageOfAFullHouse() {
        ShoeHouse h = Bench.of("room1;".repeat(8) + "lodger0;lodger1;lodger2;lodger3;lodger4;lodger5;finder7;finder7;finder7;"
                + "may5calm 23 23;may5cross 23 23;may4calm 0 0;may4cross 0 0;");
        h.draw(1);
        int first = h.does(4, 0);
        int last = h.does(5, 23);
        h.lend(5, 4, 2);
        h.look(2, 23, 3);
        h.see(7, 23, 3);
        h.image();
        h.back();
        h.lend(0, 1, 1);
        h.lend(5, 4, 1);
        h.look(2, 23, 5);
        h.see(7, 0, 0);
        for (int seed = 2; seed < 60 && (h.does(4, 0) == first || h.does(5, 23) == last); seed++) {
            h.draw(seed);
        }
        restores(true, h);
        due(first, h.does(4, 0));
        due(last, h.does(5, 23));
        due(3, h.look(2, 23, 3));
        h.forget();
        restores(true, h);
        h.see(6, 23, 3);
        due(1, h.count(4));
        due(2, h.cases());
        due(0, h.lodger(5, 2));
        due(1, h.lodger(5, 1));
        due(2, h.lodger(4, 2));
        due(0, h.back());
        for (int lodger = 0; lodger < 6; lodger++) {
            due(1, h.lodger(lodger, 1));
            due(1, h.lodger(lodger, 2));
        }
    }

    private static void restore() {
        edge(35, "They are as the image again: true.", () -> {
            ShoeHouse h = Bench.of("room 1;room 1;lodger 0;lodger 1;may 0 asleep 0 23;may 0 cross 0 23;");
            for (int i = 0; i < 12; i++) {
                h.lend(i % 2, 1 - i % 2, 2);
            }
            h.image();
            String then = stateOf(h);
            for (int i = 0; i < 12; i++) {
                h.back();
            }
            h.lend(1, 0, 1);
            h.draw(1);
            restores(true, h);
            dueAll(then, stateOf(h));
            due(11, h.back());
            due(0, h.lodger(0, 2));
            restores(true, h);
            due(12, h.count(4));
            due(NONE, h.lend(0, 1, 1));
        });
        edge(35, "False: there is none.", () -> {
            ShoeHouse h = new ShoeHouse();
            restores(false, h);
            h.image();
            restores(true, h);
            Bench.tell(h, "room 1;room 1;lodger 0;lodger 1;finder 0;");
            restores(false, h);
            h.lend(0, 1, 1);
            h.see(0, 4, 3);
            h.look(0, 3, 1);
            String then = stateOf(h);
            restores(false, h);
            dueAll(then, stateOf(h));
            due(1, h.look(0, 3, 1));
            h.image();
            Bench.tell(h, "x");
            restores(true, h);
            due(0, h.house(0));
            restores(false, h);
        });
    }
}
