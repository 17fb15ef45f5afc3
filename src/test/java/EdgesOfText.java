import java.util.Arrays;

/** Boundary cases of promises 1 to 9 and of the text that tells a house. */
final class EdgesOfText extends Edges {
    private static final int NONE = ShoeHouse.NONE;
    private static final int LEAST = Integer.MIN_VALUE;
    private static final int MOST = Integer.MAX_VALUE;
    private static final String ROOMS = "room 1;room 2;room 3;room 4;room 5;room 6;room 7;room 8;";
    private static final String LODGERS = "lodger 0;lodger 1;lodger 2;lodger 3;lodger 4;lodger 5;";
    private static final String FINDERS = "finder 7;finder 7;finder 0;";
    static final String FULL = ROOMS + LODGERS + FINDERS;

    private EdgesOfText() {
    }

    static void all() {
        newObject();
        feed();
        house();
        houseRefused();
        tokens();
        lines();
        tooMuch();
        notTold();
        firstFault();
        fault();
        count();
        room();
        lodger();
        may();
        says();
    }

    private static void newObject() {
        edge(1, "No ROOMS.", () -> {
            ShoeHouse h = new ShoeHouse();
            due(0, h.count(0));
            noElement(() -> h.room(0, 0));
            noElement(() -> h.sign(0, 0));
            noElement(() -> h.chance(0, 0));
            due(0, h.sure(0));
            due(0, h.sure(1));
            due(NONE, h.sure(2));
        });
        edge(1, "No ROOMS.", () -> {
            ShoeHouse h = new ShoeHouse();
            int[] want = {0, 0, 0, 0, 0, NONE, 0, 0, 0, 0, 0};
            for (int what = 0; what < want.length; what++) {
                due(want[what], h.count(what));
            }
            noElement(() -> h.lodger(0, 0));
            noElement(() -> h.look(0, 0, 0));
            noElement(() -> h.path(0, 0));
            noElement(() -> h.lender(0));
            h.draw(1);
            due(1, h.cases());
            noElement(() -> h.inCase(0, 0));
            due(NONE, h.back());
            due(0, h.forget());
            restores(false, h);
        });
        edge(1, "(at first 3, 1, 2, 1; who is in another ROOM is OUT by his own)", () -> {
            ShoeHouse h = new ShoeHouse();
            due(3, h.count(20));
            due(1, h.count(21));
            due(2, h.count(22));
            due(1, h.count(23));
        });
        edge(1, "An object is used for at most 512 calls after it has been made", () -> {
            ShoeHouse h = new ShoeHouse();
            for (int pair = 0; pair < 255; pair++) {
                due(1, h.house(h.feed(0, 0, 0, 0, 0)));
            }
            due(0, h.count(7));
            due(255, h.count(8));
        });
    }

    private static void feed() {
        edge(2, "Twenty bytes come behind the tape, of each number the highest first: how many it has", () -> {
            ShoeHouse h = new ShoeHouse();
            due(20, h.feed(0x726f6f6d, 0x20393b72, 0x6f6f6d20, 0x383b726f, 0x6f6d2037));
            due(40, h.feed(0x3b726f6f, 0x6d20363b, 0x20202020, 0x20202020, 0x20202020));
            due(40, h.count(7));
            due(0, h.house(40));
            due(4, h.count(0));
            for (int room = 0; room < 4; room++) {
                due(9 - room, h.room(room, 0));
            }
        });
        edge(2, "Twenty bytes come behind the tape, of each number the highest first: how many it has", () -> {
            // Each of the twenty places in turn has the one byte that is no blank; 255 is a byte as well.
            for (int place = 0; place < 20; place++) {
                int[] n = {0x20202020, 0x0a0a0a0a, 0x20202020, 0x0a0a0a0a, 0x20202020};
                n[place / 4] |= 255 << 24 - place % 4 * 8;
                ShoeHouse h = new ShoeHouse();
                h.feed(n[0], n[1], n[2], n[3], n[4]);
                due(1, h.house(20));
                due(place, h.fault());
            }
        });
        edge(2, "NONE, and none come, if it would have more than 700.", () -> {
            ShoeHouse h = new ShoeHouse();
            for (int i = 1; i < 35; i++) {
                due(20 * i, h.feed(0x20202020, 0x20202020, 0x20202020, 0x20202020, 0x20202020));
            }
            due(700, h.feed(0x20202020, 0x20202020, 0x20202020, 0x20726f6f, 0x6d20373b));
            due(NONE, h.feed(0, 0, 0, 0, 0));
            due(NONE, h.feed(0, 0, 0, 0, 0));
            due(700, h.count(7));
            due(0, h.house(700));
            due(7, h.room(0, 0));
            due(20, h.feed(0, 0, 0, 0, 0));
        });
    }

    private static void house() {
        edge(3, "The tape's first n bytes (it is empty then) are a HOUSE, all anew: 0, or the FAULT (all stays).", () -> {
            ShoeHouse h = new ShoeHouse();
            int n = Bench.feed(h, "room 5;room 6;") - 7;
            due(0, h.house(n));
            due(1, h.count(0));
            due(0, h.count(7));
            illegal(() -> h.house(1));
            Bench.feed(h, "room 8;");
            due(0, h.house(20));
            due(1, h.count(0));
            due(8, h.room(0, 0));
            Bench.feed(h, "room 8;");
            due(1, h.house(6));
            due(0, h.count(7));
        });
        edge(3, "The tape's first n bytes (it is empty then) are a HOUSE, all anew: 0, or the FAULT (all stays).", () -> {
            ShoeHouse h = Bench.of(FULL + "may 0 calm 0 9;law calm none;law out left;");
            due(0, h.house(0));
            for (int what = 0; what < 4; what++) {
                due(0, h.count(what));
            }
            due(3, h.count(20));
            due(1, h.count(23));
            Bench.tell(h, "room 7;lodger 0;");
            due(1, h.may(0, 0, -1));
            due(0, h.may(0, 0, 0));
            due(0, h.count(3));
        });
        edge(3, "0, or the FAULT (all stays)", () -> {
            ShoeHouse h = busyHouse();
            String before = stateOf(h);
            due(3, Bench.tell(h, "room 1;room 2;lodger 1;finder 0;may 0 out 0 9;law cross none;lodger 4;"));
            due(1, h.count(8));
            dueAll(before, stateOf(h));
            due(0, h.look(0, 9, 1));
            h.back();
            restores(true, h);
            dueAll(before, stateOf(h));
        });
        edge(3, "What is LENT, SEEN, THE DAY, ROUNDS, a round or lending that is kept, the image are gone (STATUS stays).",
                EdgesOfText::goneWithAHouse);
        edge(3, "A TEXT of at most 700 bytes tells it.", () -> {
            isHouse(" ".repeat(693) + "room 5;");
            isHouse("\n".repeat(700));
            fault(1, 699, " ".repeat(699) + "x");
            fault(1, 700, " ".repeat(696) + "room");
            fault(1, 700, " ".repeat(694) + "room 5");
        });
        edge(3, "In quotes is what stands there, [ ] perhaps, * any number of times, | one of some.", () -> {
            isHouse("");
            isHouse("law out none;");
            isHouse("room 1;".repeat(2) + "lodger 0;lodger 1 left;" + "may 0 calm 1 1;".repeat(40));
            fault(1, 0, "'room' 1;");
            fault(1, 15, "room 1;lodger 0[left];");
            fault(1, 12, "law out left|right;");
            fault(1, 7, "room 1;*");
        });
        edge(3, "HOUSE: LINE*.", () -> {
            isHouse("");
            isHouse(" \n");
            isHouse("room 5;");
            isHouse("law calm none;room 5;law out none;lodger 0;may 0 out 0 0;room 5;may 0 at 1 0 0;lodger 1;finder 0;");
        });
    }

    /** A house in which there is some of everything, with two calls refused. */
    private static ShoeHouse busyHouse() {
        ShoeHouse h = Bench.of("room 9;room 8;lodger 0;lodger 1 left;finder 1;may 0 calm 0 23;may 0 asleep 5 5;"
                + "may 1 out 0 23;may 1 cross 5 5;law calm none;law out both;");
        due(1, h.lend(0, 1, 2));
        due(NONE, h.lend(0, 1, 2));
        due(1, h.see(0, 5, 1));
        due(NONE, h.see(0, 5, 1));
        due(1, h.look(0, 9, 0));
        h.draw(3);
        h.round(0, 3, 2);
        due(0, h.fewest(0, 1));
        h.image();
        return h;
    }

    private static void goneWithAHouse() {
        String text = "room 9;room 8;lodger 0;lodger 1;finder 0;may 0 asleep 0 23;may 0 calm 0 23;law out none;";
        ShoeHouse h = Bench.of(text);
        h.draw(10);
        int drawn = 0;
        for (int hour = 0; hour < 24; hour++) {
            drawn += h.does(0, hour) == 3 ? 1 : 0;
        }
        due(1, drawn > 0 ? 1 : 0);
        h.lend(0, 1, 1);
        h.see(1, 4, 3);
        h.look(0, 9, 1);
        h.round(0, 3, 2);
        due(1, h.fewest(0, 0));
        h.image();
        h.lend(0, 0, 1);
        h.see(1, 4, 3);
        due(1, Bench.tell(h, "x"));
        due(0, Bench.tell(h, text));
        due(0, h.count(4));
        due(NONE, h.back());
        due(1, h.lodger(0, 1));
        due(1, h.lodger(1, 1));
        due(NONE, h.count(5));
        due(0, h.count(6));
        for (int hour = 0; hour < 24; hour++) {
            due(1, h.does(0, hour));
            due(0, h.look(0, hour, 1));
        }
        noElement(() -> h.path(0, 0));
        noElement(() -> h.lender(0));
        restores(false, h);
        due(1, h.count(8));
        due(1, h.count(9));
        due(1, h.count(10));
    }

    private static void houseRefused() {
        edge(3, "IllegalArgumentException: the tape has not so many, n below 0 (nothing changes).", () -> {
            ShoeHouse h = busyHouse();
            due(1, Bench.tell(h, "room 5;room x"));
            Bench.feed(h, "room 5;");
            String before = stateOf(h);
            for (int n : new int[] {21, -1, MOST, LEAST, 701}) {
                illegal(() -> h.house(n));
            }
            dueAll(before, stateOf(h));
            due(12, h.fault());
            due(20, h.count(7));
            due(0, h.house(20));
            due(5, h.room(0, 0));
        });
        edge(3, "the tape has not so many", () -> {
            ShoeHouse h = new ShoeHouse();
            illegal(() -> h.house(1));
            due(0, h.house(0));
            illegal(() -> h.house(1));
        });
    }

    private static void tokens() {
        edge(3, "TOKENS: words (a .. z, the longest row), NUMBERS (1 to 3 digits), the sign ; and blanks (32, 10) between them, "
                + "which count for nothing.", () -> {
            for (int b = 0; b < 256; b++) {
                String text = "room 5;" + (char) b + "room 6;";
                if (b == 32 || b == 10) {
                    isHouse(text);
                } else {
                    fault(1, 7, text);
                }
            }
        });
        edge(3, "the sign ; and blanks (32, 10) between them, which count for nothing.", () -> {
            for (int b = 0; b < 256; b++) {
                String text = "room" + (char) b + "5;";
                boolean isLetter = b >= 'a' && b <= 'z';
                if (b == 32 || b == 10 || b >= '0' && b <= '9') {
                    isHouse(text);
                } else {
                    fault(1, isLetter ? 0 : 4, text);
                }
            }
            isHouse("\n  \nroom\n\n5 \n;\n \n");
            isHouse("room5;lodger0left;finder0;may0out0 23;law out none;");
            fault(1, 7, "room 1 0;");
            fault(1, 0, "ro om 1;");
        });
        edge(3, "words (a .. z, the longest row)", () -> {
            fault(1, 0, "roo 5;");
            fault(1, 0, "roomm 5;");
            fault(1, 0, "roomroom 5;");
            fault(1, 0, "lawcalm none;");
            fault(1, 4, "law calmnone;");
            fault(1, 16, "room 5;lodger 0 leftleft;");
            fault(1, 0, "Room 5;");
            fault(1, 0, "a".repeat(700));
            String[] near = {"zoom 5;", "rzom 5;", "rozm 5;", "rooz 5;", "r 5;", "zay 0 out 0 0;", "zaw out none;", "z"};
            for (String text : near) {
                fault(1, 0, text);
            }
        });
        edge(3, "NUMBERS (1 to 3 digits)", () -> {
            isHouse("room 7;room 07;room 007;room 0;room 00;room 000;");
            isHouse("room 5;lodger 000;may 000 out 005 023;finder 000;");
            fault(2, 5, "room 0007;");
        });
    }

    private static void lines() {
        edge(3, "LINE: ('room' GOODS | 'lodger' ROOM ['left' | 'right'] | 'finder' ROOM", () -> {
            tokenByToken("room 7 ;", "");
            tokenByToken("lodger 1 ;", "left right");
            tokenByToken("lodger 1 left ;", "");
            tokenByToken("lodger 1 right ;", "");
            tokenByToken("finder 1 ;", "");
        });
        edge(3, "'may' LODGER ('out' | 'asleep' | 'cross' | 'calm' | 'at' ROOM) FROM TO", () -> {
            for (String doing : new String[] {"out", "asleep", "cross", "calm", "at 1"}) {
                tokenByToken("may 0 " + doing + " 1 2 ;", "");
            }
        });
        edge(3, "'law' ('out' | 'asleep' | 'cross' | 'calm') ('none' | 'left' | 'right' | 'both')) ';'", () -> {
            for (String doing : Model.DOINGS) {
                for (String sign : Model.SIGNS) {
                    tokenByToken("law " + doing + " " + sign + " ;", "");
                }
            }
        });
        edge(3, "'left' and 'right' of a LODGER are the foot that he has", () -> {
            ShoeHouse h = Bench.of("room 1;room 1;room 1;lodger 0 left;lodger 1 right;lodger 2;");
            due(1, h.lodger(0, 1));
            due(0, h.lodger(0, 2));
            due(0, h.lodger(1, 1));
            due(1, h.lodger(1, 2));
            due(1, h.lodger(2, 1));
            due(1, h.lodger(2, 2));
        });
        edge(4, "1 a TOKEN that can't stand there, or is none (the text's length where it ends too soon)", () -> {
            fault(1, 4, "room");
            fault(1, 6, "room  ");
            fault(1, 8, "room 5 \n");
            fault(1, 7, "room 5;;");
            fault(1, 5, "room -5;");
            fault(1, 0, ";");
            fault(1, 0, "5;");
            fault(1, 1, " #");
            ShoeHouse h = new ShoeHouse();
            Bench.feed(h, "room 5;room 5;");
            due(1, h.house(13));
            due(13, h.fault());
        });
    }

    /** Cuts a line behind each token, and puts there what can't stand there, ahead of it and in its place. */
    private static void tokenByToken(String line, String also) {
        String ahead = "room 5;room 6;lodger 0;";
        isHouse(ahead + line);
        String[] wrong = {"room", "lodger", "finder", "may", "law", "out", "asleep", "cross", "calm", "at", "none", "left",
            "right", "both", "0", "12", "1234", ";", "x", "?", "\t", "\u00e9", "\u0000"};
        String[] tokens = line.split(" ");
        StringBuilder told = new StringBuilder(ahead);
        for (int i = 0; i < tokens.length; i++) {
            String behind = String.join(" ", Arrays.asList(tokens).subList(i + 1, tokens.length));
            if (i > 0) {
                fault(1, told.length(), told.toString());
                fault(1, told.length() - 1, told.substring(0, told.length() - 1));
            }
            for (String one : wrong) {
                if (!canStand(tokens, i, one) && !also.contains(one)) {
                    fault(1, told.length(), told + one + " " + line);
                    fault(1, told.length(), told + one + " " + behind);
                }
            }
            told.append(tokens[i]).append(' ');
        }
    }

    private static boolean canStand(String[] tokens, int i, String one) {
        String firsts = " room lodger finder may law ";
        String doings = " out asleep cross calm ";
        String there = " " + tokens[i] + " ";
        String given = " " + one + " ";
        if (i == 0) {
            return firsts.contains(given);
        }
        if (Character.isDigit(tokens[i].charAt(0))) {
            return Character.isDigit(one.charAt(0));
        }
        if (doings.contains(there) || there.equals(" at ")) {
            return doings.contains(given) || given.equals(" at ") && tokens[0].equals("may");
        }
        if (tokens[0].equals("law") && i == 2) {
            return " none left right both ".contains(given);
        }
        if (tokens[0].equals("lodger") && i == 2 && !there.equals(" ; ")) {
            return " left right ; ".contains(given);
        }
        return one.equals(tokens[i]);
    }

    private static void tooMuch() {
        edge(3, "A HOUSE has ROOMS 0, 1 .. along a landing (at most 8), each with GOODS (0 to 99)", () -> {
            isHouse(ROOMS);
            due(8, Bench.of(ROOMS).count(0));
            due(8, Bench.of(ROOMS).room(7, 0));
            fault(2, ROOMS.length(), ROOMS + "room 1;");
            ShoeHouse h = Bench.of("room 0;room 99;");
            due(0, h.room(0, 0));
            due(99, h.room(1, 0));
            fault(2, 5, "room 100;");
            fault(2, 5, "room 999;");
        });
        edge(3, "LODGERS 0, 1 .. (at most 6), each of a ROOM of his own, with both FEET, or the left, "
                + "or the right one alone", () -> {
            isHouse(ROOMS + LODGERS);
            due(6, Bench.of(ROOMS + LODGERS).count(1));
            fault(2, ROOMS.length() + LODGERS.length(), ROOMS + LODGERS + "lodger 6;");
        });
        edge(3, "FINDERS 0, 1 .. (at most 3), each of whom begins at a ROOM.", () -> {
            ShoeHouse h = Bench.of(ROOMS + FINDERS);
            due(3, h.count(2));
            due(7, h.look(0, 0, 1));
            due(7, h.look(1, 23, 1));
            due(0, h.look(2, 23, 1));
            fault(2, ROOMS.length() + FINDERS.length(), ROOMS + FINDERS + "finder 0;");
        });
        edge(3, "At most 40 MAYS.", () -> {
            String mays = "room 5;lodger 0;" + "may0out0 1;".repeat(40);
            due(40, Bench.of(mays).count(3));
            fault(2, mays.length(), mays + "may0out0 1;");
        });
        edge(4, "2 one that can, but is too much: a NUMBER of 4 digits or more, or not as told (a TO below its FROM)", () -> {
            fault(2, 5, "room 0000;");
            fault(2, 5, "room 4294967301;");
            fault(2, 5, "room " + "0".repeat(690));
            fault(2, 14, "room 5;lodger 0000;");
            fault(2, 14, "room 5;finder 0000;");
            fault(2, 20, "room 5;lodger 0;may 0000 out 1 2;");
            fault(2, 32, "room 5;room 5;lodger 0;may 0 at 0001 1 2;");
            fault(2, 26, "room 5;lodger 0;may 0 out 0001 2;");
            fault(2, 28, "room 5;lodger 0;may 0 out 1 0002;");
        });
        edge(4, "not as told (a TO below its FROM)", () -> {
            isHouse("room 5;lodger 0;may 0 out 0 0;may 0 out 23 23;may 0 out 0 23;may 0 out 5 5;");
            fault(2, 28, "room 5;lodger 0;may 0 out 5 4;");
            fault(2, 29, "room 5;lodger 0;may 0 out 23 0;");
            fault(2, 26, "room 5;lodger 0;may 0 out 24 24;");
            fault(2, 28, "room 5;lodger 0;may 0 out 0 24;");
            fault(2, 29, "room 5;lodger 0;may 0 out 23 24;");
        });
        edge(4, "the first TOKEN of the 9th ROOM, the 7th LODGER, the 4th FINDER, the 41st MAY", () -> {
            fault(2, ROOMS.length() + 1, ROOMS + " room");
            fault(2, FULL.length(), FULL + "lodger x");
            fault(2, FULL.length(), FULL + "finder 9;");
            String mays = "room 5;lodger 0;" + "may0out0 1;".repeat(40);
            fault(2, mays.length(), mays + "may 7");
            fault(1, FULL.length(), FULL + "rooms");
        });
    }

    private static void notTold() {
        edge(4, "3 a ROOM, a LODGER that isn't told ahead", () -> {
            fault(3, 7, "lodger 0;room 5;");
            fault(3, 7, "finder 0;room 5;");
            fault(3, 14, "room 5;lodger 1;room 5;");
            fault(3, 14, "room 5;finder 1;");
            fault(3, 14, "room 5;finder 999;");
            fault(3, 4, "may 0 out 1 2;");
            fault(3, 11, "room 5;may 0 out 1 2;lodger 0;");
            fault(3, 20, "room 5;lodger 0;may 1 out 1 2;");
            fault(3, 25, "room 5;lodger 0;may 0 at 1 1 2;room 5;");
            fault(3, ROOMS.length() + 7, ROOMS + "lodger 8;");
            fault(3, FULL.length() + 4, FULL + "may 6 out 1 2;");
            isHouse(FULL + "may 5 at 7 1 2;");
        });
        edge(4, "4 a ROOM that a LODGER has already (for 'lodger'), his own ROOM (behind 'at')", () -> {
            fault(4, 30, "room 5;room 5;lodger 1;lodger 1;");
            fault(4, 30, "room 5;room 5;lodger 0;lodger 0 left;");
            isHouse("room 5;room 5;lodger 1;lodger 0;finder 1;finder 1;");
            fault(4, 32, "room 5;room 5;lodger 1;may 0 at 1 1 2;");
            isHouse("room 5;room 5;lodger 1;may 0 at 0 1 2;");
            isHouse("room 5;room 5;lodger 1;lodger 0;may 1 at 1 1 2;may 0 at 0 1 2;");
            fault(4, 41, "room 5;room 5;lodger 1;lodger 0;may 1 at 0 1 2;");
        });
        edge(4, "5 what a LAW is told of a second time (at that word)", () -> {
            for (String doing : Model.DOINGS) {
                String once = "law " + doing + " both;";
                isHouse(once);
                fault(5, once.length() + 4, once + once);
                fault(5, once.length() + 4, once + "law " + doing);
            }
            String all = "law out both;law asleep both;law cross both;law calm both;";
            isHouse(all);
            for (String doing : Model.DOINGS) {
                fault(5, all.length() + 4, all + "law " + doing + " none;");
            }
            ShoeHouse h = Bench.of("law calm none;");
            due(0, Bench.tell(h, "law calm left;"));
        });
    }

    private static void firstFault() {
        edge(4, "FAULTS, the first along the text, at a TOKEN's first byte, of one TOKEN the least", () -> {
            fault(2, 5, "room 100;lodger 7;x");
            fault(3, 7, "lodger 7;room 100;");
            fault(1, 0, "x room 100;");
            fault(2, 26, "room 5;lodger 0;may 0 out 24 x;");
            fault(1, 9, "law calm 0 ;law calm none;");
            fault(5, 18, "law calm none;law calm 0;");
        });
        edge(4, "of one TOKEN the least", () -> {
            fault(1, 0, "1234;");
            fault(1, 16, "room 5;lodger 0 1234;");
            fault(1, 22, "room 5;lodger 0;may 0 1234;");
            fault(2, 14, "room 5;lodger 1000;");
            fault(2, 20, "room 5;lodger 0;may 1000 out 1 2;");
            fault(2, 25, "room 5;lodger 0;may 0 at 0000 1 2;");
        });
    }

    private static void fault() {
        edge(4, "The place of the latest house()'s FAULT; NONE without.", () -> {
            ShoeHouse h = new ShoeHouse();
            due(NONE, h.fault());
            due(1, Bench.tell(h, "  x"));
            due(2, h.fault());
            due(2, h.fault());
            due(1, Bench.tell(h, "x"));
            due(0, h.fault());
            illegal(() -> h.house(1));
            due(0, h.fault());
            due(0, Bench.tell(h, "room 5;"));
            due(NONE, h.fault());
        });
    }

    private static void count() {
        edge(5, "5 the HOUR of what is SEEN (NONE), 6 ROOMS that are SEEN (bits)", () -> {
            ShoeHouse h = Bench.of(ROOMS);
            due(NONE, h.count(5));
            due(0, h.count(6));
            for (int room = 0; room < 8; room++) {
                due(room + 1, h.see(room, 0, 3));
            }
            due(0, h.count(5));
            due(255, h.count(6));
            h.see(7, 23, 3);
            due(23, h.count(5));
            due(128, h.count(6));
            h.forget();
            due(NONE, h.count(5));
            due(0, h.count(6));
        });
        edge(5, "0 ROOMS, 1 LODGERS, 2 FINDERS, 3 MAYS, 4 how many are LENT", () -> {
            ShoeHouse h = Bench.of(FULL + "may 0 calm 1 1;may 0 calm 1 1;");
            h.lend(0, 1, 1);
            int[] want = {8, 6, 3, 2, 1};
            for (int what = 0; what < want.length; what++) {
                due(want[what], h.count(what));
            }
        });
        edge(5, "8 to 10 STATUS 0 to 2, 20 to 23 THE LAW's SIGNS", () -> {
            ShoeHouse h = Bench.of("room 1;lodger 0;law out none;law asleep both;law cross left;law calm right;");
            due(0, h.count(20));
            due(3, h.count(21));
            due(1, h.count(22));
            due(2, h.count(23));
        });
        edge(5, "STATUS: how many calls were refused: 0 of TEXTS with a FAULT, 1 of what is LENT, 2 of what is SEEN.", () -> {
            ShoeHouse h = Bench.of("room 1;lodger 0;");
            Bench.tell(h, "x");
            h.lend(0, 0, 1);
            h.lend(0, 0, 1);
            for (int i = 0; i < 3; i++) {
                h.see(0, 0, 4);
            }
            due(1, h.count(8));
            due(2, h.count(9));
            due(3, h.count(10));
            due(NONE, h.back());
            illegal(() -> h.house(99));
            noElement(() -> h.lend(1, 0, 1));
            noElement(() -> h.see(1, 0, 1));
            due(1, h.count(8));
            due(2, h.count(9));
            due(3, h.count(10));
        });
        edge(5, "NoSuchElementException: another what.", () -> {
            ShoeHouse h = Bench.of(FULL);
            for (int what : new int[] {-1, 11, 12, 19, 24, LEAST, MOST}) {
                noElement(() -> h.count(what));
            }
        });
    }

    private static void room() {
        edge(6, "Of a ROOM: 0 GOODS, 1 its LODGER (NONE).", () -> {
            ShoeHouse h = Bench.of("room 0;room 99;room 7;lodger 2;lodger 0;");
            due(0, h.room(0, 0));
            due(99, h.room(1, 0));
            due(1, h.room(0, 1));
            due(NONE, h.room(1, 1));
            due(0, h.room(2, 1));
        });
        edge(6, "NoSuchElementException: no such ROOM (as everywhere), what.", () -> {
            ShoeHouse h = Bench.of(FULL);
            for (int room : new int[] {-1, 8, LEAST, MOST}) {
                noRoom(h, room);
            }
            for (int what : new int[] {-1, 2, LEAST, MOST}) {
                noElement(() -> h.room(0, what));
            }
            due(0, h.count(10));
            due(8, h.room(7, 0));
            due(3, h.sign(7, 0));
            due(0, h.chance(7, 0));
        });
        edge(6, "no such ROOM (as everywhere)", () -> {
            ShoeHouse h = Bench.of("room 1;room 2;lodger 0;finder 0;");
            noRoom(h, 2);
            Bench.tell(h, "room 1;lodger 0;finder 0;");
            noRoom(h, 1);
            Bench.tell(h, "");
            noRoom(h, 0);
        });
    }

    private static void noRoom(ShoeHouse h, int room) {
        noElement(() -> h.room(room, 0));
        noElement(() -> h.room(room, 1));
        noElement(() -> h.sign(room, 0));
        noElement(() -> h.look(0, 0, room));
        noElement(() -> h.theft(room, 0));
        noElement(() -> h.see(room, 0, 3));
        noElement(() -> h.misled(room, 0, 0));
        noElement(() -> h.chance(room, 0));
        noElement(() -> h.round(room, 0, 1));
        noElement(() -> h.fire(0, room, 0, 0, 0));
    }

    private static void lodger() {
        edge(7, "Of a LODGER: 0 his ROOM, 1 left shoes that he has now, 2 right ones.", () -> {
            ShoeHouse h = Bench.of(ROOMS + "lodger 7;lodger 0 left;lodger 3 right;");
            due(7, h.lodger(0, 0));
            due(0, h.lodger(1, 0));
            due(3, h.lodger(2, 0));
            due(1, h.lodger(0, 1));
            h.lend(0, 1, 1);
            h.lend(1, 2, 1);
            h.lend(1, 2, 1);
            due(0, h.lodger(0, 1));
            due(1, h.lodger(0, 2));
            due(0, h.lodger(1, 1));
            due(2, h.lodger(2, 1));
        });
        edge(7, "who has both FEET has a left and a right one; who has one has that one's", () -> {
            ShoeHouse h = Bench.of("room 1;room 1;room 1;lodger 0;lodger 1 right;lodger 2 left;");
            int[][] want = {{1, 1}, {0, 1}, {1, 0}};
            for (int lodger = 0; lodger < 3; lodger++) {
                due(want[lodger][0], h.lodger(lodger, 1));
                due(want[lodger][1], h.lodger(lodger, 2));
            }
        });
        edge(7, "NoSuchElementException: no such LODGER (as everywhere), what.", () -> {
            ShoeHouse h = Bench.of(FULL);
            due(0, h.fewest(0, 23));
            for (int lodger : new int[] {-1, 6, LEAST, MOST}) {
                noLodger(h, lodger);
            }
            for (int what : new int[] {-1, 3, LEAST, MOST}) {
                noElement(() -> h.lodger(0, what));
            }
            due(0, h.count(9));
            due(5, h.lodger(5, 0));
            due(NONE, h.lender(5));
        });
        edge(7, "no such LODGER (as everywhere)", () -> {
            ShoeHouse h = Bench.of("room 1;room 2;lodger 0;");
            h.fewest(0, 0);
            noLodger(h, 1);
            Bench.tell(h, "room 1;");
            h.fewest(0, 0);
            noLodger(h, 0);
        });
    }

    private static void noLodger(ShoeHouse h, int lodger) {
        noElement(() -> h.lodger(lodger, 0));
        noElement(() -> h.lodger(lodger, 1));
        noElement(() -> h.may(lodger, 0, -1));
        noElement(() -> h.says(lodger, 0));
        noElement(() -> h.lend(lodger, 0, 1));
        noElement(() -> h.lend(0, lodger, 1));
        noElement(() -> h.does(lodger, 0));
        noElement(() -> h.inCase(0, lodger));
        noElement(() -> h.where(lodger));
        noElement(() -> h.lender(lodger));
        noElement(() -> h.fire(lodger, 0, 0, 0, 0));
    }

    private static void may() {
        edge(8, "What a LODGER MAY do in an HOUR: how many (i NONE), the i-th from the least on.", () -> {
            ShoeHouse h = Bench.of(ROOMS + "lodger 3;may 0 at 7 4 4;may 0 calm 0 23;may 0 at 0 4 5;may 0 cross 4 4;"
                    + "may 0 asleep 4 4;may 0 out 4 4;may 0 calm 4 4;");
            int[] want = {0, 1, 2, 3, 10, 17};
            due(want.length, h.may(0, 4, NONE));
            for (int i = 0; i < want.length; i++) {
                due(want[i], h.may(0, 4, i));
            }
            due(2, h.may(0, 5, NONE));
            due(3, h.may(0, 5, 0));
            due(10, h.may(0, 5, 1));
        });
        edge(8, "What he MAY do in an HOUR (0 to 23) is told by spans of HOURS; nothing told: he is OUT then.", () -> {
            ShoeHouse h = Bench.of("room 1;lodger 0;may 0 calm 3 5;may 0 cross 23 23;may 0 asleep 0 0;");
            int[] want = {1, 0, 0, 3, 3, 3, 0};
            for (int hour = 0; hour < want.length; hour++) {
                due(1, h.may(0, hour, NONE));
                due(want[hour], h.may(0, hour, 0));
            }
            due(0, h.may(0, 22, 0));
            due(2, h.may(0, 23, 0));
        });
        edge(8, "NoSuchElementException: also no such HOUR (as everywhere), no such one.", () -> {
            ShoeHouse h = Bench.of(FULL + "may 0 calm 0 23;may 0 asleep 0 23;");
            for (int hour : new int[] {-1, 24, LEAST, MOST}) {
                noHour(h, hour);
            }
            for (int i : new int[] {-2, 2, LEAST, MOST}) {
                noElement(() -> h.may(0, 0, i));
            }
            noElement(() -> h.may(1, 0, 1));
            due(0, h.may(1, 23, 0));
            due(0, h.count(10));
            due(0, h.does(1, 23));
            due(3, h.sign(7, 23));
        });
    }

    private static void noHour(ShoeHouse h, int hour) {
        noElement(() -> h.may(0, hour, NONE));
        noElement(() -> h.does(0, hour));
        noElement(() -> h.sign(0, hour));
        noElement(() -> h.sign(7, hour));
        noElement(() -> h.look(0, hour, 0));
        noElement(() -> h.see(0, hour, 3));
        noElement(() -> h.misled(0, hour, 0));
        noElement(() -> h.chance(0, hour));
        noElement(() -> h.chance(7, hour));
        noElement(() -> h.round(0, hour, 1));
        noElement(() -> h.rests(hour, 1, NONE));
        noElement(() -> h.fire(0, 0, hour, 0, 0));
    }

    private static void says() {
        edge(9, "THE SIGN of a LODGER if he does something.", () -> {
            ShoeHouse h = Bench.of("room 1;room 1;lodger 0;law out right;law asleep both;law cross none;law calm left;");
            int[] want = {2, 3, 0, 1};
            for (int does = 0; does < 4; does++) {
                due(want[does], h.says(0, does));
            }
            due(2, h.says(0, 11));
        });
        edge(9, "A SIGN is 0 none, 1 a left shoe, 2 a right one, 3 both.", () -> {
            String[] signs = Model.SIGNS;
            for (int sign = 0; sign < 4; sign++) {
                ShoeHouse h = Bench.of("room 1;lodger 0;law calm " + signs[sign] + ";");
                due(sign, h.count(23));
                due(sign, h.says(0, 3));
            }
        });
        edge(9, "A LODGER is OUT (0), at home ASLEEP (1), CROSS (2) or CALM (3), or in another ROOM r (10 and r).", () -> {
            ShoeHouse h = Bench.of("room 1;room 1;lodger 0;may 0 out 0 0;may 0 asleep 1 1;may 0 cross 2 2;may 0 calm 3 3;"
                    + "may 0 at 1 4 4;");
            int[] want = {0, 1, 2, 3, 11};
            for (int hour = 0; hour < want.length; hour++) {
                due(want[hour], h.does(0, hour));
            }
        });
        edge(9, "(at first 3, 1, 2, 1; who is in another ROOM is OUT by his own)", () -> {
            ShoeHouse h = Bench.of("room 1;room 1;lodger 0;");
            int[] want = {3, 1, 2, 1};
            for (int does = 0; does < 4; does++) {
                due(want[does], h.says(0, does));
            }
            due(3, h.says(0, 11));
        });
        edge(9, "NoSuchElementException: also it is nothing that one can do (in a HOUSE of these ROOMS, "
                + "his own being none of 10 on).", () -> {
            ShoeHouse h = Bench.of(FULL);
            for (int does : new int[] {-1, 4, 5, 9, 18, 19, LEAST, MOST}) {
                noElement(() -> h.says(0, does));
            }
            for (int lodger = 0; lodger < 6; lodger++) {
                int one = lodger;
                noElement(() -> h.says(one, 10 + one));
            }
            due(3, h.says(0, 17));
            due(3, h.says(5, 10));
            due(3, h.says(5, 14));
            ShoeHouse small = Bench.of("room 1;lodger 0;");
            noElement(() -> small.says(0, 10));
            noElement(() -> small.says(0, 11));
        });
    }
}
