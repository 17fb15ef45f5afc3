/** Promises 10 to 18, 34 and 35: lending, the day, signs, finders, what is seen, the image. */
public final class DayTest {
    private static final Bench B = new Bench();

    public static void main(String[] args) {
        lending();
        lendingAtMostTwelve();
        drawing();
        signs();
        looking();
        thefts();
        seeing();
        image();
        B.end();
    }

    private static void lending() {
        ShoeHouse h = Bench.of("room 1;room 2;room 3;lodger 0;lodger 1 left;lodger 2 right;");
        B.due("nothing is lent", -1, h::back);
        B.due("lend", 1, () -> h.lend(0, 1, 1));
        B.due("giver", 0, () -> h.lodger(0, 1));
        B.due("taker", 2, () -> h.lodger(1, 1));
        B.due("lend on", 2, () -> h.lend(1, 2, 1));
        B.due("lend on once more", 3, () -> h.lend(1, 2, 1));
        B.due("count", 3, () -> h.count(4));
        B.due("he has none", -1, () -> h.lend(1, 0, 1));
        B.due("to himself", -1, () -> h.lend(2, 2, 1));
        B.due("no shoe 0", -1, () -> h.lend(2, 1, 0));
        B.due("no shoe 3", -1, () -> h.lend(2, 1, 3));
        B.due("four refused", 4, () -> h.count(9));
        B.dueThrow("no lodger", Bench.NO_ELEMENT, () -> h.lend(3, 0, 1));
        B.dueThrow("no taker, ahead of no shoe", Bench.NO_ELEMENT, () -> h.lend(0, -1, 7));
        B.due("throws refuse nothing", 4, () -> h.count(9));
        B.due("back", 2, h::back);
        B.due("the last one first", 1, () -> h.lodger(1, 1));
        B.due("back", 1, h::back);
        B.due("back", 0, h::back);
        B.due("as at first 0", 1, () -> h.lodger(0, 1));
        B.due("as at first 1", 1, () -> h.lodger(1, 1));
        B.due("as at first 2", 0, () -> h.lodger(2, 1));
        B.due("none left", -1, h::back);
        B.due("back is not refused", 4, () -> h.count(9));
    }

    private static void lendingAtMostTwelve() {
        ShoeHouse h = Bench.of("room 1;room 2;lodger 0;lodger 1;");
        for (int i = 0; i < 12; i++) {
            int from = i % 2;
            B.due("lend " + i, i + 1, () -> h.lend(from, 1 - from, 2));
        }
        B.due("the 13th", -1, () -> h.lend(0, 1, 2));
        B.due("refused", 1, () -> h.count(9));
        B.due("twelve", 12, () -> h.count(4));
        B.due("back", 11, h::back);
        B.due("once more", 12, () -> h.lend(1, 0, 2));
    }

    private static void drawing() {
        ShoeHouse h = Bench.of("room 1;room 2;lodger 0;lodger 1;may 0 cross 0 23;may 0 calm 0 1;may 0 at 1 0 1;"
                + "may 1 asleep 1 1;may 1 at 0 1 1;");
        B.due("the least at first", 2, () -> h.does(0, 0));
        h.draw(0);
        // Seeds: 12345 (bits 16 on: 0), -740551042 (21468 MOD 3 is 0), -1492899873 (9988 MOD 2 is 0)
        B.due("lodger 0 in 0", 2, () -> h.does(0, 0));
        B.due("lodger 0 in 1", 2, () -> h.does(0, 1));
        B.due("lodger 1 in 1", 1, () -> h.does(1, 1));
        h.draw(10);
        // Seeds: -1849737093 (4543 MOD 3 is 1), 1849040536 (28214 MOD 3 is 2), -1410496783 (11245 MOD 2 is 1)
        B.due("lodger 0 in 0 by another seed", 3, () -> h.does(0, 0));
        B.due("lodger 0 in 1 by another seed", 11, () -> h.does(0, 1));
        B.due("lodger 1 in 1 by another seed", 10, () -> h.does(1, 1));
        B.due("one alone", 2, () -> h.does(0, 2));
        B.due("nothing told", 0, () -> h.does(1, 0));
        h.draw(-1);
        // -1103502900 (15929 MOD 3 is 2)
        B.due("a seed below 0", 11, () -> h.does(0, 0));
        B.dueThrow("does of nobody", Bench.NO_ELEMENT, () -> h.does(2, 0));
        B.dueThrow("does in no hour", Bench.NO_ELEMENT, () -> h.does(0, 24));
    }

    private static void signs() {
        ShoeHouse h = Bench.of("room 1;room 2;room 3;lodger 2 right;lodger 0;may 0 cross 3 3;may 0 calm 4 4;may 1 at 1 5 5;");
        B.due("no lodger", 3, () -> h.sign(1, 0));
        B.due("out with one shoe", 2, () -> h.sign(2, 0));
        B.due("cross", 2, () -> h.sign(2, 3));
        B.due("a left wants a left one", 0, () -> h.sign(2, 4));
        B.due("in another room", 3, () -> h.sign(0, 5));
        h.lend(1, 0, 1);
        B.due("lent", 1, () -> h.sign(2, 4));
        B.due("what is left", 2, () -> h.sign(0, 5));
        B.dueThrow("no room", Bench.NO_ELEMENT, () -> h.sign(3, 0));
        B.dueThrow("no hour", Bench.NO_ELEMENT, () -> h.sign(0, -1));
    }

    private static void looking() {
        ShoeHouse h = Bench.of("room 1;room 2;room 3;finder 2;finder 0;");
        B.due("where he begins", 2, () -> h.look(0, 5, 1));
        B.due("where he did", 1, () -> h.look(0, 5, 0));
        B.due("another hour", 2, () -> h.look(0, 6, 0));
        B.due("another finder", 0, () -> h.look(1, 5, 0));
        B.dueThrow("no finder", Bench.NO_ELEMENT, () -> h.look(2, 0, 0));
        B.dueThrow("no finder below", Bench.NO_ELEMENT, () -> h.look(-1, 0, 0));
        B.dueThrow("no hour", Bench.NO_ELEMENT, () -> h.look(0, 24, 0));
        B.dueThrow("no room", Bench.NO_ELEMENT, () -> h.look(0, 0, 3));
    }

    private static void thefts() {
        ShoeHouse h = Bench.of("room 5;room 0;room 9;lodger 0;lodger 1;finder 2;finder 1;finder 2;law calm none;"
                + "may 0 calm 4 7;may 1 calm 0 23;");
        B.due("nobody walks by", -1, () -> h.theft(0, 0));
        B.due("no hour", -1, () -> h.theft(0, 1));
        B.due("no goods", -1, () -> h.theft(1, 0));
        B.due("no lodger", -1, () -> h.theft(2, 0));
        h.look(2, 5, 0);
        h.look(1, 6, 0);
        h.look(0, 3, 0);
        B.due("who", 2, () -> h.theft(0, 0));
        B.due("when", 5, () -> h.theft(0, 1));
        h.look(1, 5, 0);
        B.due("of one hour the first", 1, () -> h.theft(0, 0));
        h.look(0, 4, 0);
        B.due("an earlier hour", 0, () -> h.theft(0, 0));
        B.due("hour 4", 4, () -> h.theft(0, 1));
        ShoeHouse early = Bench.of("room 5;lodger 0;finder 0;may 0 cross 0 23;law cross none;");
        B.due("in hour 0", 0, () -> early.theft(0, 1));
        B.due("by finder 0", 0, () -> early.theft(0, 0));
        B.dueThrow("what", Bench.NO_ELEMENT, () -> h.theft(0, 2));
        B.dueThrow("room", Bench.NO_ELEMENT, () -> h.theft(3, 0));
    }

    private static void seeing() {
        ShoeHouse h = Bench.of("room 1;room 2;room 3;");
        B.due("see", 1, () -> h.see(2, 7, 3));
        B.due("hour", 7, () -> h.count(5));
        B.due("rooms", 4, () -> h.count(6));
        B.due("see another", 2, () -> h.see(0, 7, 0));
        B.due("rooms", 5, () -> h.count(6));
        B.due("again", -1, () -> h.see(2, 7, 3));
        B.due("no sign", -1, () -> h.see(1, 7, 4));
        B.due("no sign, another hour", -1, () -> h.see(1, 8, -1));
        B.due("refused", 3, () -> h.count(10));
        B.due("the hour stays", 7, () -> h.count(5));
        B.due("another hour begins anew", 1, () -> h.see(2, 8, 3));
        B.due("rooms of it", 4, () -> h.count(6));
        B.dueThrow("no room", Bench.NO_ELEMENT, () -> h.see(3, 8, 9));
        B.dueThrow("no hour", Bench.NO_ELEMENT, () -> h.see(0, 24, 9));
        B.due("throws refuse nothing", 3, () -> h.count(10));
        B.due("forget", 1, h::forget);
        B.due("no hour left", -1, () -> h.count(5));
        B.due("forget again", 0, h::forget);
        B.due("see it once more", 1, () -> h.see(2, 8, 1));
    }

    /** What is undone behind a restore is what the image had, not what was lent in between. */
    private static void imageOfLent() {
        ShoeHouse h = Bench.of("room 1;room 2;room 3;room 4;lodger 0;lodger 1;lodger 2;lodger 3;");
        h.lend(3, 2, 2);
        h.image();
        h.back();
        h.lend(0, 1, 1);
        h.restore();
        B.due("lent in the image", 2, () -> h.lodger(2, 2));
        B.due("undone", 0, h::back);
        B.due("giver", 1, () -> h.lodger(3, 2));
        B.due("taker", 1, () -> h.lodger(2, 2));
        B.due("left shoes of 0", 1, () -> h.lodger(0, 1));
        B.due("left shoes of 1", 1, () -> h.lodger(1, 1));
    }

    private static void imageOfSigns() {
        ShoeHouse h = Bench.of("room 1;");
        h.see(0, 4, 3);
        h.image();
        h.see(0, 5, 0);
        B.due("no case", 0, h::cases);
        h.restore();
        B.due("a case", 1, h::cases);
    }

    private static void image() {
        ShoeHouse h = Bench.of("room 1;room 2;lodger 0;lodger 1;finder 0;may 0 cross 0 0;may 0 calm 0 0;may 0 asleep 0 0;");
        B.due("no image", 0, () -> h.restore() ? 1 : 0);
        h.lend(0, 1, 1);
        h.see(1, 4, 2);
        h.look(0, 9, 1);
        h.image();
        h.lend(1, 0, 1);
        h.lend(1, 0, 1);
        h.forget();
        h.see(0, 5, 2);
        h.look(0, 9, 0);
        h.draw(-1);
        h.lend(0, 0, 0);
        h.see(0, 5, 2);
        B.due("drawn", 3, () -> h.does(0, 0));
        B.due("restored", 1, () -> h.restore() ? 1 : 0);
        B.due("lent", 1, () -> h.count(4));
        B.due("shoes", 2, () -> h.lodger(1, 1));
        B.due("hour seen", 4, () -> h.count(5));
        B.due("rooms seen", 2, () -> h.count(6));
        B.due("sign seen", 0, h::cases);
        B.due("round", 1, () -> h.look(0, 9, 1));
        B.due("day", 1, () -> h.does(0, 0));
        B.due("status stays", 1, () -> h.count(9));
        B.due("status 2 stays", 1, () -> h.count(10));
        B.due("back as it was", 0, h::back);
        B.due("his shoe", 1, () -> h.lodger(0, 1));
        B.due("restored again", 1, () -> h.restore() ? 1 : 0);
        B.due("lent again", 1, () -> h.count(4));
        h.back();
        h.image();
        h.lend(0, 1, 2);
        B.due("the new one", 1, () -> h.restore() ? 1 : 0);
        B.due("none lent", 0, () -> h.count(4));
        imageOfLent();
        imageOfSigns();
    }
}
