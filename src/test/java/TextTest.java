/** Promises 1 to 9: the tape, texts and their faults, and what a house tells of itself. */
public final class TextTest {
    private static final Bench B = new Bench();

    public static void main(String[] args) {
        newObject();
        tape();
        houses();
        faultsOfTokens();
        faultsOfNumbers();
        faultsOfWhatIsTold();
        afterAFault();
        countsAndRooms();
        lodgersAndMays();
        saying();
        B.end();
    }

    private static void fault(String text, int code, int place) {
        ShoeHouse h = new ShoeHouse();
        B.due("house of '" + text + "'", code, () -> Bench.tell(h, text));
        B.due("fault of '" + text + "'", place, h::fault);
    }

    private static void newObject() {
        ShoeHouse h = new ShoeHouse();
        for (int what : new int[] {0, 1, 2, 3, 4, 6, 7, 8, 9, 10}) {
            B.due("new count " + what, 0, () -> h.count(what));
        }
        B.due("new hour", ShoeHouse.NONE, () -> h.count(5));
        B.due("new law out", 3, () -> h.count(20));
        B.due("new law asleep", 1, () -> h.count(21));
        B.due("new law cross", 2, () -> h.count(22));
        B.due("new law calm", 1, () -> h.count(23));
        B.due("new fault", -1, h::fault);
        B.dueThrow("new room", Bench.NO_ELEMENT, () -> h.room(0, 0));
        B.dueThrow("new lodger", Bench.NO_ELEMENT, () -> h.lodger(0, 0));
        B.due("new cases", 1, h::cases);
        B.due("new restore", 0, () -> h.restore() ? 1 : 0);
    }

    private static void tape() {
        ShoeHouse h = new ShoeHouse();
        for (int i = 1; i <= 35; i++) {
            int want = 20 * i;
            B.due("feed " + i, want, () -> h.feed(0x20202020, 0x20202020, 0x0a0a0a0a, 0x20202020, 0x20202020));
        }
        B.due("feed beyond 700", -1, () -> h.feed(0, 0, 0, 0, 0));
        B.due("the tape stays", 700, () -> h.count(7));
        B.due("blanks are a house", 0, () -> h.house(700));
        B.due("the tape is empty then", 0, () -> h.count(7));
        // "room 7;" by bytes, the highest of each number first; what stands behind n counts for nothing
        B.due("feed anew", 20, () -> h.feed(0x726f6f6d, 0x20373bff, 0, -1, 0x80808080));
        B.due("seven bytes", 0, () -> h.house(7));
        B.due("goods", 7, () -> h.room(0, 0));
        B.due("bytes behind n are gone", 0, () -> h.count(7));
    }

    private static void houses() {
        ShoeHouse h = new ShoeHouse();
        int n = Bench.feed(h, "room 5;finder 0;");
        B.dueThrow("n too great", Bench.ILLEGAL, () -> h.house(21));
        B.dueThrow("n below 0", Bench.ILLEGAL, () -> h.house(-1));
        B.due("nothing changed", 20, () -> h.count(7));
        B.due("nothing was refused", 0, () -> h.count(8));
        B.due("house", 0, () -> h.house(n));
        B.due("an empty house", 0, () -> h.house(0));
        B.due("all anew", 0, () -> h.count(0));
        B.due("no finders", 0, () -> h.count(2));

        ShoeHouse all = Bench.of("room 9;room 8;lodger 0;lodger 1;finder 1;may 0 calm 0 23;law calm none;law out none;");
        all.lend(0, 1, 1);
        all.see(0, 4, 0);
        all.look(0, 3, 0);
        all.draw(5);
        all.round(0, 3, 2);
        all.fewest(0, 1);
        all.image();
        all.lend(0, 0, 1);
        all.see(0, 4, 0);
        B.due("kept round", 0, () -> all.path(0, 0));
        B.due("kept lending", -1, () -> all.lender(0));
        B.due("told again", 0, () -> Bench.tell(all, "room 9;room 8;lodger 1;lodger 0;finder 0;"));
        B.due("nothing lent", 0, () -> all.count(4));
        B.due("nothing seen", -1, () -> all.count(5));
        B.due("no room seen", 0, () -> all.count(6));
        B.due("status 1 stays", 1, () -> all.count(9));
        B.due("status 2 stays", 1, () -> all.count(10));
        B.due("law anew", 1, () -> all.count(23));
        B.due("law of out anew", 3, () -> all.count(20));
        B.due("rounds anew", 0, () -> all.look(0, 3, 1));
        B.due("day anew", 0, () -> all.does(0, 5));
        B.due("may anew", 1, () -> all.may(0, 5, -1));
        B.due("image gone", 0, () -> all.restore() ? 1 : 0);
        B.dueThrow("round gone", Bench.NO_ELEMENT, () -> all.path(0, 0));
        B.dueThrow("lending gone", Bench.NO_ELEMENT, () -> all.lender(0));
        B.due("a law may be told again in another house", 0, () -> Bench.tell(all, "law calm none;"));
    }

    private static void faultsOfTokens() {
        fault("", 0, -1);
        fault(" \n ", 0, -1);
        fault("room5;lodger0left;finder0;may0out0 23;lawoutnone;", 1, 38);
        fault("room5;lodger0left;finder0;may0out0 23;law out none;", 0, -1);
        fault("room\n5\n;\n", 0, -1);
        fault("room", 1, 4);
        fault("room   ", 1, 7);
        fault("room 5", 1, 6);
        fault("room 5 ", 1, 7);
        fault("room 5;;", 1, 7);
        fault("room 5 6;", 1, 7);
        fault("room five;", 1, 5);
        fault("room;", 1, 4);
        fault("Room 5;", 1, 0);
        fault("room\t5;", 1, 4);
        fault("room 5\r;", 1, 6);
        fault("room -5;", 1, 5);
        fault("room 5;\u00e9", 1, 7);
        fault("room 5;\u0000", 1, 7);
        fault("rooms 5;", 1, 0);
        fault("roo m 5;", 1, 0);
        fault("5;", 1, 0);
        fault("12345;", 1, 0);
        fault("room 5;lodger 0 both;", 1, 16);
        fault("room 5;lodger 0 left right;", 1, 21);
        fault("room 5;lodger 0 leftright;", 1, 16);
        fault("room 5;lodger 0 1234;", 1, 16);
        fault("room 5;lodger 0;may 0 at out 1 2;", 1, 25);
        fault("room 5;lodger 0;may 0 none 1 2;", 1, 22);
        fault("room 5;lodger 0;may 0 calm 1;", 1, 28);
        fault("room 5;lodger 0;may out 0 1;", 1, 20);
        fault("law calm calm;", 1, 9);
        fault("law none none;", 1, 4);
        fault("law;", 1, 3);
        fault("law calm", 1, 8);
    }

    private static void faultsOfNumbers() {
        fault("room 99;room 099;room 000;", 0, -1);
        fault("room 100;", 2, 5);
        fault("room 0001;", 2, 5);
        fault("room 99999999999999999999;", 2, 5);
        fault("room 5;lodger 0000;", 2, 14);
        fault("room 5;finder 0000;", 2, 14);
        fault("room 5;lodger 0;may 0000 out 0 1;", 2, 20);
        fault("room 5;lodger 0;may 0 at 0000 0 1;", 2, 25);
        fault("room 5;lodger 0;may 0 out 24 25;", 2, 26);
        fault("room 5;lodger 0;may 0 out 0 24;", 2, 28);
        fault("room 5;lodger 0;may 0 out 5 4;", 2, 28);
        fault("room 5;lodger 0;may 0 out 5 0005;", 2, 28);
        fault("room 5;lodger 0;may 0 out 23 23;", 0, -1);
        fault("room 5;lodger 0;may 0 out 5 5;", 0, -1);
        String rooms = "room 1;room 1;room 1;room 1;room 1;room 1;room 1;room 1;";
        fault(rooms, 0, -1);
        fault(rooms + "room x", 2, 56);
        String lodgers = rooms + "lodger 0;lodger 1;lodger 2;lodger 3;lodger 4;lodger 5;";
        fault(lodgers, 0, -1);
        fault(lodgers + "lodger 6;", 2, 110);
        fault("room 1;finder 0;finder 0;finder 0;", 0, -1);
        fault("room 1;finder 0;finder 0;finder 0;finder 0;", 2, 34);
        StringBuilder mays = new StringBuilder("room 1;lodger 0;");
        for (int i = 0; i < 40; i++) {
            mays.append("may0out0 1;");
        }
        fault(mays.toString(), 0, -1);
        fault(mays + "may", 2, 456);
    }

    private static void faultsOfWhatIsTold() {
        fault("lodger 0;", 3, 7);
        fault("finder 0;room 5;", 3, 7);
        fault("room 5;lodger 1;", 3, 14);
        fault("room 5;lodger 999;", 3, 14);
        fault("room 5;finder 8;", 3, 14);
        fault("may 0 out 1 2;", 3, 4);
        fault("room 5;lodger 0;may 1 out 1 2;", 3, 20);
        fault("room 5;lodger 0;may 0 at 1 1 2;", 3, 25);
        fault("room 5;room 5;lodger 0;lodger 0;", 4, 30);
        fault("room 5;room 5;lodger 1;lodger 0;may 0 at 1 1 2;", 4, 41);
        fault("room 5;room 5;lodger 1;lodger 0;may 1 at 1 1 2;", 0, -1);
        fault("law calm none;law calm left;", 5, 18);
        fault("law calm none;law out left;law calm", 5, 31);
        fault("law out none;law asleep left;law cross right;law calm both;", 0, -1);
    }

    private static void afterAFault() {
        ShoeHouse h = Bench.of("room 5;room 6;lodger 1 right;finder 1;law calm both;");
        h.see(0, 3, 3);
        h.image();
        B.due("fault", 3, () -> Bench.tell(h, "room 1;law calm none;lodger 4;"));
        B.due("place", 28, h::fault);
        B.due("refused", 1, () -> h.count(8));
        B.due("tape empty", 0, () -> h.count(7));
        B.due("rooms stay", 2, () -> h.count(0));
        B.due("goods stay", 6, () -> h.room(1, 0));
        B.due("law stays", 3, () -> h.count(23));
        B.due("seen stays", 3, () -> h.count(5));
        B.due("image stays", 1, () -> h.restore() ? 1 : 0);
        B.dueThrow("no bytes", Bench.ILLEGAL, () -> h.house(1));
        B.due("the place stays behind a throw", 28, h::fault);
        B.due("house", 0, () -> h.house(0));
        B.due("no place", -1, h::fault);
    }

    private static void countsAndRooms() {
        ShoeHouse h = Bench.of("room 10;room 0;room 30;lodger 2;lodger 0 left;finder 1;"
                + "may 0 out 0 1;may 0 out 0 1;law out none;law cross both;");
        long[] want = {3, 2, 1, 2, 0, -1, 0, 0, 0, 0, 0};
        for (int i = 0; i < want.length; i++) {
            int what = i;
            B.due("count " + i, want[i], () -> h.count(what));
        }
        B.due("law out", 0, () -> h.count(20));
        B.due("law asleep", 1, () -> h.count(21));
        B.due("law cross", 3, () -> h.count(22));
        B.due("law calm", 1, () -> h.count(23));
        for (int what : new int[] {-1, 11, 19, 24, Integer.MIN_VALUE}) {
            B.dueThrow("count " + what, Bench.NO_ELEMENT, () -> h.count(what));
        }
        B.due("goods 2", 30, () -> h.room(2, 0));
        B.due("lodger of 2", 0, () -> h.room(2, 1));
        B.due("lodger of 0", 1, () -> h.room(0, 1));
        B.due("lodger of 1", -1, () -> h.room(1, 1));
        B.dueThrow("room 3", Bench.NO_ELEMENT, () -> h.room(3, 0));
        B.dueThrow("room -1", Bench.NO_ELEMENT, () -> h.room(-1, 0));
        B.dueThrow("room what", Bench.NO_ELEMENT, () -> h.room(0, 2));
    }

    private static void lodgersAndMays() {
        ShoeHouse h = Bench.of("room 10;room 0;room 30;lodger 2;lodger 0 left;lodger 1 right;"
                + "may 0 at 1 0 5;may 0 cross 4 8;may 0 at 0 4 4;may 0 cross 4 4;");
        B.due("his room", 2, () -> h.lodger(0, 0));
        B.due("left", 1, () -> h.lodger(0, 1));
        B.due("right", 1, () -> h.lodger(0, 2));
        B.due("left of a left foot", 1, () -> h.lodger(1, 1));
        B.due("right of a left foot", 0, () -> h.lodger(1, 2));
        B.due("left of a right foot", 0, () -> h.lodger(2, 1));
        B.due("right of a right foot", 1, () -> h.lodger(2, 2));
        B.dueThrow("lodger 3", Bench.NO_ELEMENT, () -> h.lodger(3, 0));
        B.dueThrow("lodger what", Bench.NO_ELEMENT, () -> h.lodger(0, 3));
        B.due("may 0 in 4", 3, () -> h.may(0, 4, -1));
        B.due("may 0 in 4: 0", 2, () -> h.may(0, 4, 0));
        B.due("may 0 in 4: 1", 10, () -> h.may(0, 4, 1));
        B.due("may 0 in 4: 2", 11, () -> h.may(0, 4, 2));
        B.dueThrow("may 0 in 4: 3", Bench.NO_ELEMENT, () -> h.may(0, 4, 3));
        B.dueThrow("may -2", Bench.NO_ELEMENT, () -> h.may(0, 4, -2));
        B.due("may 0 in 9", 1, () -> h.may(0, 9, -1));
        B.due("may 0 in 9: out", 0, () -> h.may(0, 9, 0));
        B.dueThrow("hour 24", Bench.NO_ELEMENT, () -> h.may(0, 24, -1));
        B.dueThrow("hour -1", Bench.NO_ELEMENT, () -> h.may(0, -1, -1));
        B.dueThrow("may of lodger 3", Bench.NO_ELEMENT, () -> h.may(3, 0, -1));
    }

    private static void saying() {
        ShoeHouse h = Bench.of("room 1;room 2;room 3;lodger 1;lodger 0 left;law calm both;law cross none;");
        B.due("out", 3, () -> h.says(0, 0));
        B.due("asleep", 1, () -> h.says(0, 1));
        B.due("cross", 0, () -> h.says(0, 2));
        B.due("calm", 3, () -> h.says(0, 3));
        B.due("at 2 he is out", 3, () -> h.says(0, 12));
        B.due("at 0 too", 3, () -> h.says(0, 10));
        B.due("of both what he has", 1, () -> h.says(1, 0));
        h.lend(0, 1, 2);
        B.due("a right one came", 3, () -> h.says(1, 0));
        B.due("a right one went", 1, () -> h.says(0, 0));
        h.lend(0, 1, 1);
        B.due("a left one went", 0, () -> h.says(0, 1));
        for (int does : new int[] {-1, 4, 9, 11, 13, Integer.MAX_VALUE}) {
            B.dueThrow("says " + does, Bench.NO_ELEMENT, () -> h.says(0, does));
        }
        B.dueThrow("says of nobody", Bench.NO_ELEMENT, () -> h.says(2, 0));
    }
}
