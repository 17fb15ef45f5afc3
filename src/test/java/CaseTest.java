/** Promises 19 to 23: cases, sure rooms, the door to knock at, and who is misled. */
public final class CaseTest {
    private static final Bench B = new Bench();
    private static final String HOUSE = "room 1;room 2;room 3;lodger 0;lodger 2;"
            + "may 0 asleep 4 4;may 0 calm 4 4;may 0 at 1 4 4;may 1 out 4 4;may 1 cross 4 4;may 1 at 0 4 4;";

    public static void main(String[] args) {
        cases();
        sureRooms();
        wheres();
        spent();
        exactlySpent();
        misled();
        misledByMore();
        B.end();
    }

    private static void cases() {
        ShoeHouse h = Bench.of(HOUSE);
        B.due("nothing seen: hour 0", 1, h::cases);
        B.due("who is out", 0, () -> h.inCase(0, 1));
        B.due("an empty room has both", 1, () -> h.see(1, 4, 3));
        B.due("all", 9, h::cases);
        int[][] rows = {{1, 0}, {1, 2}, {1, 10}, {3, 0}, {3, 2}, {3, 10}, {11, 0}, {11, 2}, {11, 10}};
        for (int i = 0; i < 9; i++) {
            for (int l = 0; l < 2; l++) {
                int number = i;
                int lodger = l;
                B.due("case " + i + " of " + l, rows[i][l], () -> h.inCase(number, lodger));
            }
        }
        B.dueThrow("the 10th", Bench.NO_ELEMENT, () -> h.inCase(9, 0));
        B.dueThrow("below 0", Bench.NO_ELEMENT, () -> h.inCase(-1, 0));
        B.dueThrow("no lodger", Bench.NO_ELEMENT, () -> h.inCase(0, 2));
        h.see(0, 4, 1);
        B.due("one left shoe", 6, h::cases);
        B.due("row 3", 3, () -> h.inCase(3, 0));
        h.see(2, 4, 2);
        B.due("and a right one", 2, h::cases);
        B.due("case 1, lodger 0", 3, () -> h.inCase(1, 0));
        B.due("case 1, lodger 1", 2, () -> h.inCase(1, 1));
        h.forget();
        h.see(1, 4, 0);
        B.due("an empty room without shoes", 0, h::cases);
        B.dueThrow("no case", Bench.NO_ELEMENT, () -> h.inCase(0, 0));
        h.forget();
        h.see(2, 4, 2);
        h.lend(1, 0, 2);
        B.due("the shoe is lent", 0, h::cases);
    }

    private static void sureRooms() {
        ShoeHouse h = Bench.of(HOUSE);
        B.due("nobody in hour 0", 7, () -> h.sure(0));
        B.due("nobody sure in hour 0", 0, () -> h.sure(1));
        B.due("of like ones the least", 0, () -> h.sure(2));
        h.see(1, 4, 3);
        // Somebody is in room 0 in 7 of 9, in room 1 in 3, in room 2 in 3.
        B.due("nothing empty", 0, () -> h.sure(0));
        B.due("nothing taken", 0, () -> h.sure(1));
        B.due("to knock", 1, () -> h.sure(2));
        h.see(0, 4, 1);
        B.due("room 1 is empty", 2, () -> h.sure(0));
        B.due("room 0 is taken", 1, () -> h.sure(1));
        B.due("to knock at 2", 2, () -> h.sure(2));
        h.see(2, 4, 0);
        B.due("no cases: no empty ones", 0, () -> h.sure(0));
        B.due("no cases: no taken ones", 0, () -> h.sure(1));
        B.due("no cases: no door", -1, () -> h.sure(2));
        B.dueThrow("what", Bench.NO_ELEMENT, () -> h.sure(3));
        B.dueThrow("what below", Bench.NO_ELEMENT, () -> h.sure(-1));
        B.due("no rooms", -1, () -> new ShoeHouse().sure(2));
    }

    private static void wheres() {
        ShoeHouse h = Bench.of(HOUSE);
        B.due("out", 0, () -> h.where(0));
        h.see(1, 4, 3);
        B.due("lodger 0", 3, () -> h.where(0));
        B.due("lodger 1", 5, () -> h.where(1));
        h.see(2, 4, 3);
        B.due("lodger 1 has both out", 1, () -> h.where(1));
        h.see(0, 4, 0);
        B.due("no cases", 0, () -> h.where(1));
        B.dueThrow("no lodger", Bench.NO_ELEMENT, () -> h.where(2));
    }

    /** Lodgers of five doings each: four are 625 rows, six are 15625. */
    private static String crowd(int last) {
        StringBuilder text = new StringBuilder();
        for (int i = 0; i < 7; i++) {
            text.append("room1;");
        }
        for (int i = 0; i < 6; i++) {
            text.append("lodger").append(i).append(';');
        }
        String[] doings = {"out", "asleep", "cross", "calm", "at6"};
        for (int lodger = 0; lodger < 5; lodger++) {
            for (String doing : doings) {
                text.append("may").append(lodger).append(doing).append(" 0 0;");
            }
        }
        for (int i = 0; i < last; i++) {
            text.append("may5").append(new String[] {"out", "cross"}[i]).append(" 0 0;");
        }
        return text.toString();
    }

    private static void exactlySpent() {
        String text = "room1;room1;room1;room1;room1;room1;room1;lodger0;lodger1;lodger2;lodger3;lodger4;lodger5;";
        int[] many = {5, 5, 5, 4, 4, 2};
        StringBuilder mays = new StringBuilder(text);
        for (int lodger = 0; lodger < 6; lodger++) {
            for (int i = 0; i < many[lodger]; i++) {
                mays.append("may").append(lodger).append(i < 4 ? Model.DOINGS[i] : "at6").append(" 9 9;");
            }
        }
        ShoeHouse h = Bench.of(mays.toString());
        h.see(6, 9, 3);
        B.due("4000 rows", 4000, h::cases);
        B.due("the last one's last", 1, () -> h.inCase(3999, 5));
        B.due("the first one's last", 16, () -> h.inCase(3999, 0));
        B.due("misled too", 0, () -> h.misled(6, 9, 0));
        ShoeHouse more = Bench.of(mays + "may5calm 9 9;");
        more.see(6, 9, 3);
        B.due("6000 rows", -2, more::cases);
    }

    private static void spent() {
        ShoeHouse most = Bench.of(crowd(1));
        B.due("3125 rows", 3125, most::cases);
        B.due("the last", 16, () -> most.inCase(3124, 4));
        ShoeHouse h = Bench.of(crowd(2));
        B.due("6250 rows", -2, h::cases);
        for (int what = 0; what < 3; what++) {
            int w = what;
            B.due("sure " + w, -2, () -> h.sure(w));
        }
        B.due("where", -2, () -> h.where(0));
        B.dueThrow("inCase", Bench.NO_ELEMENT, () -> h.inCase(0, 0));
        B.due("misled", -2, () -> h.misled(0, 0, 0));
        B.due("misled by whom", -2, () -> h.misled(0, 0, 1));
        B.dueThrow("what ahead of it", Bench.NO_ELEMENT, () -> h.misled(0, 0, 2));
        B.dueThrow("sure what ahead of it", Bench.NO_ELEMENT, () -> h.sure(3));
        B.due("another hour isn't", -1, () -> h.misled(0, 1, 0));
        h.see(0, 0, 3);
        B.due("seen or not", -2, h::cases);
        h.see(0, 1, 3);
        B.due("an hour that isn't", 1, h::cases);
    }

    private static void misled() {
        ShoeHouse h = Bench.of("room 5;room 5;lodger 0;lodger 1;may 0 asleep 1 1;may 0 calm 1 1;may 0 at 1 1 1;"
                + "may 1 cross 1 1;law calm both;");
        B.due("one door", 1, () -> h.misled(0, 1, 0));
        B.due("his", 1, () -> h.misled(0, 1, 1));
        B.due("never", -1, () -> h.misled(1, 1, 0));
        B.due("never by any", -1, () -> h.misled(1, 1, 1));
        h.draw(-1);
        B.due("he is at 1", 11, () -> h.does(0, 1));
        B.due("none is needed", 0, () -> h.misled(0, 1, 0));
        B.due("no bits", 0, () -> h.misled(0, 1, 1));
        h.lend(0, 1, 2);
        // Without his right shoe every doing shows a left one, so nothing need be changed.
        B.due("what shoes he has", 0, () -> h.misled(0, 1, 0));
        B.dueThrow("no room", Bench.NO_ELEMENT, () -> h.misled(2, 1, 0));
        B.dueThrow("no hour", Bench.NO_ELEMENT, () -> h.misled(0, 24, 0));
        B.dueThrow("what", Bench.NO_ELEMENT, () -> h.misled(0, 1, -1));
    }

    private static void misledByMore() {
        // Lodger 0 is surely at home by the left shoe, so his door must lie (he is out then by both);
        // about room 0 either of lodgers 1 and 2 must lie too, by cross or calm, both a right shoe.
        ShoeHouse h = Bench.of("room 5;room 5;room 5;lodger 0;lodger 1;lodger 2;may 0 asleep 0 0;may 0 out 0 0;"
                + "may 1 asleep 0 0;may 1 cross 0 0;may 1 at 0 0 0;may 2 asleep 0 0;may 2 cross 0 0;may 2 at 0 0 0;"
                + "law out right;law cross right;");
        h.draw(0);
        for (int seed = 0; seed < 1000 && !(h.does(0, 0) == 1 && h.does(1, 0) == 1 && h.does(2, 0) == 1); seed++) {
            h.draw(seed);
        }
        B.due("two doors", 2, () -> h.misled(0, 0, 0));
        B.due("the least bits", 3, () -> h.misled(0, 0, 1));
        B.due("room 1 by one", 1, () -> h.misled(1, 0, 0));
        B.due("by lodger 1", 2, () -> h.misled(1, 0, 1));
    }
}
