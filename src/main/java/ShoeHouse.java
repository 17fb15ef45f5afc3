import java.util.Arrays;
import java.util.NoSuchElementException;

/** A house of rooms along a landing, whose lodgers tell by shoes at the door what they do. */
public final class ShoeHouse {
    public static final int NONE = -1;

    private static final int SPENT = -2;
    private static final int MOST_BYTES = 700;
    private static final int MOST_ROOMS = 8;
    private static final int MOST_GOODS = 99;
    private static final int MOST_LODGERS = 6;
    private static final int MOST_FINDERS = 3;
    private static final int MOST_MAYS = 40;
    private static final int MOST_LENT = 12;
    private static final int MOST_ROWS = 4000;
    private static final int MOST_STEPS = 6;
    private static final int MOST_WORDS = 40;
    private static final int MOST_KINDS = 8;
    private static final int HOURS = 24;

    private static final int OUT = 0;
    private static final int ASLEEP = 1;
    private static final int CROSS = 2;
    private static final int CALM = 3;
    private static final int ELSEWHERE = 10;
    private static final int AT_HOME = 1 << ASLEEP | 1 << CROSS | 1 << CALM;

    private static final int LEFT = 1;
    private static final int RIGHT = 2;
    private static final int BOTH = 3;

    /** Every number from 1 to 12 parts it, so that chances stay whole. */
    private static final int WHOLE = 27720;

    private static final int REFUSED_TEXTS = 0;
    private static final int REFUSED_LENT = 1;
    private static final int REFUSED_SEEN = 2;

    private final Tape tape;
    private final Plan plan;
    private final Plan draft;
    private final Reader reader;
    private final Affairs now;
    private final Affairs kept;
    private final Doors doors;
    private final Cases held;
    private final Deceit deceit;
    private final Walk walk;
    private final Game game;
    private final Lending lending;
    private final Slippers slippers;
    private final int[] refused;
    private int faultPlace;
    private boolean isKept;

    public ShoeHouse() {
        tape = new Tape();
        plan = new Plan();
        draft = new Plan();
        reader = new Reader(tape.bytes, draft);
        now = new Affairs();
        kept = new Affairs();
        doors = new Doors(plan, now);
        held = new Cases(plan, now, doors);
        deceit = new Deceit(plan, now, doors);
        walk = new Walk(plan, doors);
        game = new Game(plan, doors);
        lending = new Lending(plan, now, doors);
        slippers = new Slippers();
        refused = new int[3];
        faultPlace = NONE;
        isKept = false;
    }

    public int feed(int a, int b, int c, int d, int e) {
        if (!tape.hasRoomFor(20)) {
            return NONE;
        }
        tape.append(a);
        tape.append(b);
        tape.append(c);
        tape.append(d);
        tape.append(e);
        return tape.length;
    }

    public int house(int n) throws IllegalArgumentException {
        if (n < 0 || n > tape.length) {
            throw new IllegalArgumentException("the tape has not so many bytes");
        }
        int found = reader.read(n);
        tape.length = 0;
        if (found != 0) {
            faultPlace = reader.place;
            refused[REFUSED_TEXTS]++;
            return found;
        }
        faultPlace = NONE;
        plan.copyFrom(draft);
        now.begin(plan);
        walk.length = 0;
        lending.isKept = false;
        isKept = false;
        return 0;
    }

    public int fault() {
        return faultPlace;
    }

    public int count(int what) throws NoSuchElementException {
        switch (what) {
            case 0: return plan.rooms;
            case 1: return plan.lodgers;
            case 2: return plan.finders;
            case 3: return plan.mays;
            case 4: return now.lent;
            case 5: return now.seenHour;
            case 6: return now.seenRooms;
            case 7: return tape.length;
            case 8: return refused[REFUSED_TEXTS];
            case 9: return refused[REFUSED_LENT];
            case 10: return refused[REFUSED_SEEN];
            case 20: return plan.law[OUT];
            case 21: return plan.law[ASLEEP];
            case 22: return plan.law[CROSS];
            case 23: return plan.law[CALM];
            default: throw new NoSuchElementException("nothing is counted by this number");
        }
    }

    public int room(int room, int what) throws NoSuchElementException {
        needRoom(room);
        needOneOf(what, 2);
        return what == 0 ? plan.goods[room] : plan.tenant[room];
    }

    public int lodger(int lodger, int what) throws NoSuchElementException {
        needLodger(lodger);
        needOneOf(what, 3);
        return what == 0 ? plan.home[lodger] : now.shoesOf(lodger, what);
    }

    public int may(int lodger, int hour, int i) throws NoSuchElementException {
        needLodger(lodger);
        needHour(hour);
        int doings = plan.doings(lodger, hour);
        int many = Integer.bitCount(doings);
        if (i == NONE) {
            return many;
        }
        needOneOf(i, many);
        return nthBit(doings, i);
    }

    public int says(int lodger, int does) throws NoSuchElementException {
        needLodger(lodger);
        if (!plan.canDo(lodger, does)) {
            throw new NoSuchElementException("nothing that he can do");
        }
        return doors.signOf(lodger, does);
    }

    public int lend(int lodger, int to, int shoe) throws NoSuchElementException {
        needLodger(lodger);
        needLodger(to);
        if (lodger == to || !now.canLend(lodger, shoe)) {
            refused[REFUSED_LENT]++;
            return NONE;
        }
        now.handOver(lodger, to, shoe);
        return now.lent;
    }

    public int back() {
        if (now.lent == 0) {
            return NONE;
        }
        now.handBack();
        return now.lent;
    }

    public void draw(int seed) {
        now.drawDay(plan, seed);
    }

    public int does(int lodger, int hour) throws NoSuchElementException {
        needLodger(lodger);
        needHour(hour);
        return now.doing(lodger, hour);
    }

    public int sign(int room, int hour) throws NoSuchElementException {
        needRoom(room);
        needHour(hour);
        return doors.signAt(room, hour);
    }

    public int look(int finder, int hour, int room) throws NoSuchElementException {
        needOneOf(finder, plan.finders);
        needHour(hour);
        needRoom(room);
        int place = finder * HOURS + hour;
        int former = now.rounds[place];
        now.rounds[place] = room;
        return former;
    }

    public int theft(int room, int what) throws NoSuchElementException {
        needRoom(room);
        needOneOf(what, 2);
        int hour = hourOfTheft(room);
        if (hour == NONE || what == 1) {
            return hour;
        }
        return finderAt(room, hour);
    }

    public int see(int room, int hour, int sign) throws NoSuchElementException {
        needRoom(room);
        needHour(hour);
        if (sign < 0 || sign > BOTH || now.hasSeen(room, hour)) {
            refused[REFUSED_SEEN]++;
            return NONE;
        }
        now.note(room, hour, sign);
        return Integer.bitCount(now.seenRooms);
    }

    public int forget() {
        int were = Integer.bitCount(now.seenRooms);
        now.seeNothing();
        return were;
    }

    public int cases() {
        return held.reckon();
    }

    public int inCase(int i, int lodger) throws NoSuchElementException {
        needLodger(lodger);
        needOneOf(i, held.reckon());
        return held.doingIn(i, lodger);
    }

    public int sure(int what) throws NoSuchElementException {
        needOneOf(what, 3);
        if (held.reckon() == SPENT) {
            return SPENT;
        }
        if (what == 2) {
            return held.doorToKnockAt();
        }
        return what == 0 ? held.surelyEmpty() : held.surelyTaken();
    }

    public int where(int lodger) throws NoSuchElementException {
        needLodger(lodger);
        int total = held.reckon();
        if (total <= 0) {
            return total;
        }
        return held.roomsOf(lodger);
    }

    public int misled(int room, int hour, int what) throws NoSuchElementException {
        needRoom(room);
        needHour(hour);
        needOneOf(what, 2);
        if (plan.rowsOf(hour) == SPENT) {
            return SPENT;
        }
        int liars = deceit.fewestLiars(room, hour);
        if (liars == NONE || what == 1) {
            return liars;
        }
        return Integer.bitCount(liars);
    }

    public int chance(int room, int hour) throws NoSuchElementException {
        needRoom(room);
        needHour(hour);
        return doors.chanceAt(room, hour);
    }

    public int round(int room, int hour, int n) throws NoSuchElementException, IllegalArgumentException {
        needRoom(room);
        needHour(hour);
        if (n < 1 || n > MOST_STEPS || hour + n > HOURS) {
            throw new IllegalArgumentException("no such number of hours");
        }
        return walk.keepBest(room, hour, n);
    }

    public int path(int i, int what) throws NoSuchElementException {
        needOneOf(i, walk.length);
        needOneOf(what, 2);
        return what == 0 ? walk.rooms[i] : walk.looks[i];
    }

    public int rests(int hour, int k, int i) throws NoSuchElementException, IllegalArgumentException {
        needHour(hour);
        if (k < 1 || k > MOST_FINDERS) {
            throw new IllegalArgumentException("no such number of finders");
        }
        if (i != NONE) {
            needOneOf(i, k);
        }
        int many = game.play(hour, k);
        if (i == NONE) {
            return many;
        }
        if (many == 0) {
            throw new NoSuchElementException("no row rests");
        }
        return game.firstRow[i];
    }

    public int fewest(int a, int b) throws IllegalArgumentException {
        if (a < 0 || b < a || b >= HOURS) {
            throw new IllegalArgumentException("no such hours");
        }
        return lending.keepFewest(a, b);
    }

    public int lender(int lodger) throws NoSuchElementException {
        needLodger(lodger);
        if (!lending.isKept) {
            throw new NoSuchElementException("no lending is kept");
        }
        return lending.lenders[lodger];
    }

    public int kinds(int n, int d) throws IllegalArgumentException {
        needWordCount(n);
        needApart(d);
        slippers.lay(d);
        return slippers.kindsFor(n);
    }

    public int word(int i, int d) throws NoSuchElementException, IllegalArgumentException {
        needOneOf(i, MOST_WORDS);
        needApart(d);
        slippers.lay(d);
        return i < slippers.many ? slippers.words[i] : NONE;
    }

    public int mend(int number, int n, int d) throws IllegalArgumentException {
        needWordCount(n);
        needApart(d);
        if (number < 0 || number >= 1 << MOST_KINDS) {
            throw new IllegalArgumentException("no such number");
        }
        slippers.lay(d);
        if (slippers.many < n) {
            throw new IllegalArgumentException("there are not so many words");
        }
        return slippers.mended(number, n);
    }

    public long fire(int lodger, int room, int hour, int wakes, int what)
            throws NoSuchElementException, IllegalArgumentException {
        needLodger(lodger);
        needRoom(room);
        needHour(hour);
        needOneOf(what, 2);
        if (wakes < 0 || wakes > 10) {
            throw new IllegalArgumentException("no such tenths");
        }
        if (now.doing(lodger, hour) != ASLEEP) {
            return 1;
        }
        int minutes = Math.min(2, Math.abs(room - plan.home[lodger]));
        return partOfEscape(minutes, wakes, what);
    }

    public void image() {
        kept.copyFrom(now);
        isKept = true;
    }

    public boolean restore() {
        if (!isKept) {
            return false;
        }
        now.copyFrom(kept);
        return true;
    }

    private void needRoom(int room) {
        if (room < 0 || room >= plan.rooms) {
            throw new NoSuchElementException("no such room");
        }
    }

    private void needLodger(int lodger) {
        if (lodger < 0 || lodger >= plan.lodgers) {
            throw new NoSuchElementException("no such lodger");
        }
    }

    private static void needHour(int hour) {
        if (hour < 0 || hour >= HOURS) {
            throw new NoSuchElementException("no such hour");
        }
    }

    private static void needOneOf(int number, int many) {
        if (number < 0 || number >= many) {
            throw new NoSuchElementException("no such one");
        }
    }

    private static void needWordCount(int n) {
        if (n < 1 || n > MOST_WORDS) {
            throw new IllegalArgumentException("no such number of words");
        }
    }

    private static void needApart(int d) {
        if (d < 1 || d > 3) {
            throw new IllegalArgumentException("no such number of kinds apart");
        }
    }

    /** Goods are taken once, so the first hour in which somebody finds no shoe there tells all. */
    private int hourOfTheft(int room) {
        if (plan.goods[room] == 0) {
            return NONE;
        }
        for (int hour = 0; hour < HOURS; hour++) {
            if (doors.signAt(room, hour) == 0 && finderAt(room, hour) != NONE) {
                return hour;
            }
        }
        return NONE;
    }

    private int finderAt(int room, int hour) {
        for (int finder = 0; finder < plan.finders; finder++) {
            if (now.rounds[finder * HOURS + hour] == room) {
                return finder;
            }
        }
        return NONE;
    }

    private static int partOfEscape(int minutes, int wakes, int what) {
        int lower = 1;
        int sleepsOn = 1;
        for (int minute = 0; minute < minutes; minute++) {
            lower *= 10;
            sleepsOn *= 10 - wakes;
        }
        int upper = lower - sleepsOn;
        int common = commonPart(upper, lower);
        if (common < 1) {
            return NONE;
        }
        return what == 0 ? upper / common : lower / common;
    }

    /** The greatest number that parts both; the lower one is at most 100. */
    private static int commonPart(int upper, int lower) {
        for (int part = lower; part > 1; part--) {
            if (upper % part == 0 && lower % part == 0) {
                return part;
            }
        }
        return 1;
    }

    /** The n-th set bit from the lowest on, counted from 0. */
    private static int nthBit(int bits, int n) {
        int ahead = 0;
        for (int bit = 0; bit < 32; bit++) {
            if ((bits >>> bit & 1) == 1) {
                if (ahead == n) {
                    return bit;
                }
                ahead++;
            }
        }
        return NONE;
    }

    /** The bytes that were fed and are no house yet. */
    private static final class Tape {
        final byte[] bytes = new byte[MOST_BYTES];
        int length;

        boolean hasRoomFor(int more) {
            return length + more <= MOST_BYTES;
        }

        void append(int number) {
            for (int shift = 24; shift >= 0 && length < MOST_BYTES; shift -= 8) {
                bytes[length] = (byte) (number >> shift);
                length++;
            }
        }
    }

    /** A house as a text tells it; nothing but another text changes it. */
    private static final class Plan {
        final int[] goods = new int[MOST_ROOMS];
        final int[] tenant = new int[MOST_ROOMS];
        final int[] home = new int[MOST_LODGERS];
        final int[] feet = new int[MOST_LODGERS];
        final int[] begins = new int[MOST_FINDERS];
        final int[] told = new int[MOST_LODGERS * HOURS];
        final int[] law = new int[4];
        int rooms;
        int lodgers;
        int finders;
        int mays;
        int lawsTold;

        Plan() {
            setFirstLaw();
        }

        private void setFirstLaw() {
            law[OUT] = BOTH;
            law[ASLEEP] = LEFT;
            law[CROSS] = RIGHT;
            law[CALM] = LEFT;
        }

        void clear() {
            rooms = 0;
            lodgers = 0;
            finders = 0;
            mays = 0;
            lawsTold = 0;
            Arrays.fill(told, 0);
            setFirstLaw();
        }

        void copyFrom(Plan other) {
            System.arraycopy(other.goods, 0, goods, 0, MOST_ROOMS);
            System.arraycopy(other.tenant, 0, tenant, 0, MOST_ROOMS);
            System.arraycopy(other.home, 0, home, 0, MOST_LODGERS);
            System.arraycopy(other.feet, 0, feet, 0, MOST_LODGERS);
            System.arraycopy(other.begins, 0, begins, 0, MOST_FINDERS);
            System.arraycopy(other.told, 0, told, 0, MOST_LODGERS * HOURS);
            System.arraycopy(other.law, 0, law, 0, 4);
            rooms = other.rooms;
            lodgers = other.lodgers;
            finders = other.finders;
            mays = other.mays;
            lawsTold = other.lawsTold;
        }

        void addRoom(int itsGoods) {
            goods[rooms] = itsGoods;
            tenant[rooms] = NONE;
            rooms++;
        }

        void addLodger(int ofRoom) {
            home[lodgers] = ofRoom;
            feet[lodgers] = BOTH;
            tenant[ofRoom] = lodgers;
            lodgers++;
        }

        void addFinder(int atRoom) {
            begins[finders] = atRoom;
            finders++;
        }

        void addMay(int lodger, int doing, int from, int to) {
            for (int hour = from; hour <= to; hour++) {
                told[lodger * HOURS + hour] |= 1 << doing;
            }
            mays++;
        }

        void addLaw(int doing, int itsSign) {
            law[doing] = itsSign;
            lawsTold |= 1 << doing;
        }

        /** What a lodger may do, a bit each; of whom nothing is told is out. */
        int doings(int lodger, int hour) {
            int bits = told[lodger * HOURS + hour];
            return bits == 0 ? 1 << OUT : bits;
        }

        boolean canDo(int lodger, int doing) {
            if (doing >= OUT && doing <= CALM) {
                return true;
            }
            return doing >= ELSEWHERE && doing < ELSEWHERE + rooms && doing != ELSEWHERE + home[lodger];
        }

        int lawFor(int doing) {
            return doing >= OUT && doing <= CALM ? law[doing] : law[OUT];
        }

        /** What a lodger does when he is in a room, a bit each. */
        int doingsIn(int room, int lodger) {
            return home[lodger] == room ? AT_HOME : 1 << (ELSEWHERE + room);
        }

        int rowsOf(int hour) {
            int rows = 1;
            for (int lodger = 0; lodger < lodgers; lodger++) {
                rows *= Integer.bitCount(doings(lodger, hour));
            }
            return rows > MOST_ROWS ? SPENT : rows;
        }
    }

    /** Reads a text into a plan, up to the first fault. */
    private static final class Reader {
        private static final int END = 0;
        private static final int WORD = 1;
        private static final int NUMBER = 2;
        private static final int STOP = 3;
        private static final int STRAY = 4;

        private static final int CANT_STAND = 1;
        private static final int TOO_MUCH = 2;
        private static final int NOT_TOLD = 3;
        private static final int TAKEN = 4;
        private static final int TOLD_TWICE = 5;

        private final byte[] text;
        private final Plan plan;
        private int end;
        private int next;
        private int token;
        private int start;
        private int value;
        private int fault;
        int place;

        Reader(byte[] text, Plan plan) {
            this.text = text;
            this.plan = plan;
        }

        /** The fault of the text's first bytes; 0, if they are a house. */
        int read(int length) {
            end = Math.min(length, text.length);
            next = 0;
            fault = 0;
            place = NONE;
            plan.clear();
            advance();
            // Each line takes a byte at least, so there are no more lines than bytes.
            for (int line = 0; line < MOST_BYTES && token != END && fault == 0; line++) {
                readLine();
            }
            return fault;
        }

        private void readLine() {
            if (isWord("room")) {
                readRoom();
            } else if (isWord("lodger")) {
                readLodger();
            } else if (isWord("finder")) {
                readFinder();
            } else if (isWord("may")) {
                readMay();
            } else if (isWord("law")) {
                readLaw();
            } else {
                refuse(CANT_STAND);
            }
            if (fault == 0 && token != STOP) {
                refuse(CANT_STAND);
            }
            advance();
        }

        private void readRoom() {
            if (isFull(plan.rooms, MOST_ROOMS)) {
                return;
            }
            advance();
            int goods = numberWithin(0, MOST_GOODS);
            if (goods == NONE) {
                return;
            }
            plan.addRoom(goods);
            advance();
        }

        private void readLodger() {
            if (isFull(plan.lodgers, MOST_LODGERS)) {
                return;
            }
            advance();
            int room = toldNumber(plan.rooms);
            if (room == NONE) {
                return;
            }
            if (plan.tenant[room] != NONE) {
                refuse(TAKEN);
                return;
            }
            plan.addLodger(room);
            advance();
            if (isWord("left")) {
                plan.feet[plan.lodgers - 1] = LEFT;
                advance();
            } else if (isWord("right")) {
                plan.feet[plan.lodgers - 1] = RIGHT;
                advance();
            }
        }

        private void readFinder() {
            if (isFull(plan.finders, MOST_FINDERS)) {
                return;
            }
            advance();
            int room = toldNumber(plan.rooms);
            if (room == NONE) {
                return;
            }
            plan.addFinder(room);
            advance();
        }

        private void readMay() {
            if (isFull(plan.mays, MOST_MAYS)) {
                return;
            }
            advance();
            int lodger = toldNumber(plan.lodgers);
            if (lodger == NONE) {
                return;
            }
            advance();
            int doing = readDoing(lodger);
            if (doing == NONE) {
                return;
            }
            advance();
            int from = numberWithin(0, HOURS - 1);
            if (from == NONE) {
                return;
            }
            advance();
            int to = numberWithin(from, HOURS - 1);
            if (to == NONE) {
                return;
            }
            plan.addMay(lodger, doing, from, to);
            advance();
        }

        /** The token stays at the last one of what is told. */
        private int readDoing(int lodger) {
            if (!isWord("at")) {
                return ownDoing();
            }
            advance();
            int room = toldNumber(plan.rooms);
            if (room == NONE) {
                return NONE;
            }
            if (room == plan.home[lodger]) {
                return refuse(TAKEN);
            }
            return ELSEWHERE + room;
        }

        private void readLaw() {
            advance();
            int doing = ownDoing();
            if (doing == NONE) {
                return;
            }
            if ((plan.lawsTold >> doing & 1) == 1) {
                refuse(TOLD_TWICE);
                return;
            }
            advance();
            int itsSign = signTold();
            if (itsSign == NONE) {
                return;
            }
            plan.addLaw(doing, itsSign);
            advance();
        }

        private int ownDoing() {
            if (isWord("out")) {
                return OUT;
            }
            if (isWord("asleep")) {
                return ASLEEP;
            }
            if (isWord("cross")) {
                return CROSS;
            }
            if (isWord("calm")) {
                return CALM;
            }
            return refuse(CANT_STAND);
        }

        private int signTold() {
            if (isWord("none")) {
                return 0;
            }
            if (isWord("left")) {
                return LEFT;
            }
            if (isWord("right")) {
                return RIGHT;
            }
            if (isWord("both")) {
                return BOTH;
            }
            return refuse(CANT_STAND);
        }

        private boolean isFull(int many, int most) {
            if (many < most) {
                return false;
            }
            refuse(TOO_MUCH);
            return true;
        }

        private int toldNumber(int many) {
            int why = faultOfNumber();
            if (why == 0 && value >= many) {
                why = NOT_TOLD;
            }
            return why == 0 ? value : refuse(why);
        }

        private int numberWithin(int least, int most) {
            int why = faultOfNumber();
            if (why == 0 && (value < least || value > most)) {
                why = TOO_MUCH;
            }
            return why == 0 ? value : refuse(why);
        }

        private int faultOfNumber() {
            if (token != NUMBER) {
                return CANT_STAND;
            }
            return next - start > 3 ? TOO_MUCH : 0;
        }

        /** The first fault is the one that counts; NONE, for what could not be read. */
        private int refuse(int why) {
            if (fault == 0) {
                fault = why;
                place = start;
            }
            return NONE;
        }

        private boolean isWord(String word) {
            if (token != WORD || next - start != word.length()) {
                return false;
            }
            for (int i = 0; i < word.length(); i++) {
                if (text[start + i] != word.charAt(i)) {
                    return false;
                }
            }
            return true;
        }

        private void advance() {
            while (next < end && (text[next] == ' ' || text[next] == '\n')) {
                next++;
            }
            start = next;
            if (next >= end) {
                token = END;
                start = end;
                return;
            }
            byte first = text[next];
            next++;
            if (first >= 'a' && first <= 'z') {
                token = WORD;
                takeRow('a', 'z');
            } else if (first >= '0' && first <= '9') {
                token = NUMBER;
                takeRow('0', '9');
                value = valueHere();
            } else {
                token = first == ';' ? STOP : STRAY;
            }
        }

        /** Of the first three digits, so that no row of them is too great for an int. */
        private int valueHere() {
            int number = 0;
            for (int i = start; i < next && i < start + 3; i++) {
                number = number * 10 + (text[i] - '0');
            }
            return number;
        }

        private void takeRow(char least, char most) {
            while (next < end && text[next] >= least && text[next] <= most) {
                next++;
            }
        }
    }

    /** What an image keeps: shoes that are lent, what is seen, the day, the finders' rounds. */
    private static final class Affairs {
        private final int[] givers = new int[MOST_LENT];
        private final int[] takers = new int[MOST_LENT];
        private final int[] lentShoes = new int[MOST_LENT];
        private final int[] shoes = new int[MOST_LODGERS * 2];
        private final int[] day = new int[MOST_LODGERS * HOURS];
        final int[] rounds = new int[MOST_FINDERS * HOURS];
        final int[] seenSigns = new int[MOST_ROOMS];
        int lent;
        int seenHour = NONE;
        int seenRooms;

        void begin(Plan plan) {
            lent = 0;
            seeNothing();
            for (int lodger = 0; lodger < plan.lodgers; lodger++) {
                shoes[lodger * 2] = plan.feet[lodger] & LEFT;
                shoes[lodger * 2 + 1] = plan.feet[lodger] >> 1;
                for (int hour = 0; hour < HOURS; hour++) {
                    day[lodger * HOURS + hour] = nthBit(plan.doings(lodger, hour), 0);
                }
            }
            for (int finder = 0; finder < plan.finders; finder++) {
                for (int hour = 0; hour < HOURS; hour++) {
                    rounds[finder * HOURS + hour] = plan.begins[finder];
                }
            }
        }

        void copyFrom(Affairs other) {
            System.arraycopy(other.givers, 0, givers, 0, MOST_LENT);
            System.arraycopy(other.takers, 0, takers, 0, MOST_LENT);
            System.arraycopy(other.lentShoes, 0, lentShoes, 0, MOST_LENT);
            System.arraycopy(other.shoes, 0, shoes, 0, MOST_LODGERS * 2);
            System.arraycopy(other.day, 0, day, 0, MOST_LODGERS * HOURS);
            System.arraycopy(other.rounds, 0, rounds, 0, MOST_FINDERS * HOURS);
            System.arraycopy(other.seenSigns, 0, seenSigns, 0, MOST_ROOMS);
            lent = other.lent;
            seenHour = other.seenHour;
            seenRooms = other.seenRooms;
        }

        int shoesOf(int lodger, int shoe) {
            return shoes[lodger * 2 + shoe - 1];
        }

        /** Which shoes a lodger has at least one of, as a sign. */
        int shoeKinds(int lodger) {
            int left = shoes[lodger * 2] > 0 ? LEFT : 0;
            int right = shoes[lodger * 2 + 1] > 0 ? RIGHT : 0;
            return left | right;
        }

        boolean canLend(int lodger, int shoe) {
            boolean isShoe = shoe == LEFT || shoe == RIGHT;
            return lent < MOST_LENT && isShoe && shoesOf(lodger, shoe) > 0;
        }

        void handOver(int giver, int taker, int shoe) {
            givers[lent] = giver;
            takers[lent] = taker;
            lentShoes[lent] = shoe;
            lent++;
            move(giver, taker, shoe);
        }

        void handBack() {
            lent--;
            move(takers[lent], givers[lent], lentShoes[lent]);
        }

        private void move(int from, int to, int shoe) {
            shoes[from * 2 + shoe - 1]--;
            shoes[to * 2 + shoe - 1]++;
        }

        int doing(int lodger, int hour) {
            return day[lodger * HOURS + hour];
        }

        void drawDay(Plan plan, int seed) {
            int drawn = seed;
            for (int hour = 0; hour < HOURS; hour++) {
                for (int lodger = 0; lodger < plan.lodgers; lodger++) {
                    int doings = plan.doings(lodger, hour);
                    int many = Integer.bitCount(doings);
                    int chosen = 0;
                    if (many > 1) {
                        drawn = drawn * 1103515245 + 12345;
                        chosen = (drawn >>> 16 & 0x7fff) % many;
                    }
                    day[lodger * HOURS + hour] = nthBit(doings, chosen);
                }
            }
        }

        boolean hasSeen(int room, int hour) {
            return hour == seenHour && (seenRooms >> room & 1) == 1;
        }

        void note(int room, int hour, int itsSign) {
            if (hour != seenHour) {
                seenRooms = 0;
                seenHour = hour;
            }
            seenRooms |= 1 << room;
            seenSigns[room] = itsSign;
        }

        void seeNothing() {
            seenHour = NONE;
            seenRooms = 0;
        }
    }

    /** What stands at the doors, by the law and the shoes that everybody has now. */
    private static final class Doors {
        private final Plan plan;
        private final Affairs now;

        Doors(Plan plan, Affairs now) {
            this.plan = plan;
            this.now = now;
        }

        int signOf(int lodger, int doing) {
            return plan.lawFor(doing) & now.shoeKinds(lodger);
        }

        int signAt(int room, int hour) {
            int lodger = plan.tenant[room];
            return lodger == NONE ? BOTH : signOf(lodger, now.doing(lodger, hour));
        }

        /** What a lodger may do then by which his door has that sign, a bit each. */
        int doingsBySign(int lodger, int hour, int itsSign) {
            int doings = plan.doings(lodger, hour);
            int has = now.shoeKinds(lodger);
            int found = 0;
            for (int doing = 0; doing < ELSEWHERE + MOST_ROOMS; doing++) {
                if ((doings >> doing & 1) == 1 && (plan.lawFor(doing) & has) == itsSign) {
                    found |= 1 << doing;
                }
            }
            return found;
        }

        int chanceAt(int room, int hour) {
            int lodger = plan.tenant[room];
            if (lodger == NONE) {
                return 0;
            }
            int many = Integer.bitCount(plan.doings(lodger, hour));
            if (many == 0) {
                return 0;
            }
            return WHOLE * Integer.bitCount(doingsBySign(lodger, hour, 0)) / many;
        }

        int worthOf(int room, int hour) {
            return plan.goods[room] * chanceAt(room, hour);
        }
    }

    /** All cases by what is seen. Doors speak for one lodger each, so the cases are every
     *  joining of what each may do by his own door; none need be written out. */
    private static final class Cases {
        private final Plan plan;
        private final Affairs now;
        private final Doors doors;
        private final int[] doings = new int[MOST_LODGERS];
        private int total;

        Cases(Plan plan, Affairs now, Doors doors) {
            this.plan = plan;
            this.now = now;
            this.doors = doors;
        }

        int reckon() {
            int hour = now.seenHour == NONE ? 0 : now.seenHour;
            if (plan.rowsOf(hour) == SPENT) {
                total = 0;
                return SPENT;
            }
            total = emptyRoomsHold() ? 1 : 0;
            for (int lodger = 0; lodger < plan.lodgers; lodger++) {
                doings[lodger] = doingsHeld(lodger, hour);
                total *= Integer.bitCount(doings[lodger]);
            }
            return total;
        }

        private boolean emptyRoomsHold() {
            for (int room = 0; room < plan.rooms; room++) {
                boolean isSeen = (now.seenRooms >> room & 1) == 1;
                if (isSeen && plan.tenant[room] == NONE && now.seenSigns[room] != BOTH) {
                    return false;
                }
            }
            return true;
        }

        private int doingsHeld(int lodger, int hour) {
            int room = plan.home[lodger];
            if ((now.seenRooms >> room & 1) == 0) {
                return plan.doings(lodger, hour);
            }
            return doors.doingsBySign(lodger, hour, now.seenSigns[room]);
        }

        int doingIn(int number, int lodger) {
            int rowsBehind = 1;
            for (int other = lodger + 1; other < plan.lodgers; other++) {
                rowsBehind *= Integer.bitCount(doings[other]);
            }
            int many = Integer.bitCount(doings[lodger]);
            if (rowsBehind < 1 || many < 1) {
                return NONE;
            }
            return nthBit(doings[lodger], number / rowsBehind % many);
        }

        private int casesWithout(int room) {
            int without = total > 0 ? 1 : 0;
            for (int lodger = 0; lodger < plan.lodgers; lodger++) {
                without *= Integer.bitCount(doings[lodger] & ~plan.doingsIn(room, lodger));
            }
            return without;
        }

        int surelyEmpty() {
            int found = 0;
            for (int room = 0; room < plan.rooms; room++) {
                if (total > 0 && casesWithout(room) == total) {
                    found |= 1 << room;
                }
            }
            return found;
        }

        int surelyTaken() {
            int found = 0;
            for (int room = 0; room < plan.rooms; room++) {
                if (total > 0 && casesWithout(room) == 0) {
                    found |= 1 << room;
                }
            }
            return found;
        }

        int doorToKnockAt() {
            int best = NONE;
            int least = total;
            for (int room = 0; room < plan.rooms && total > 0; room++) {
                int without = casesWithout(room);
                int greater = Math.max(without, total - without);
                if (best == NONE || greater < least) {
                    best = room;
                    least = greater;
                }
            }
            return best;
        }

        int roomsOf(int lodger) {
            int found = 0;
            for (int room = 0; room < plan.rooms; room++) {
                if ((doings[lodger] & plan.doingsIn(room, lodger)) != 0) {
                    found |= 1 << room;
                }
            }
            return found;
        }
    }

    /** The fewest doors by which one is misled about a room. */
    private static final class Deceit {
        private final Plan plan;
        private final Affairs now;
        private final Doors doors;
        private final int[] signs = new int[MOST_LODGERS];
        private final int[] groups = new int[MOST_LODGERS * 4];

        Deceit(Plan plan, Affairs now, Doors doors) {
            this.plan = plan;
            this.now = now;
            this.doors = doors;
        }

        /** Bits of the lodgers whose doors lie; NONE, if no doors mislead. */
        int fewestLiars(int room, int hour) {
            sortDoings(hour);
            int best = NONE;
            for (int liars = 0; liars < 1 << plan.lodgers; liars++) {
                boolean isFewer = best == NONE || Integer.bitCount(liars) < Integer.bitCount(best);
                if (isFewer && misleads(liars, room)) {
                    best = liars;
                }
            }
            return best;
        }

        private void sortDoings(int hour) {
            for (int lodger = 0; lodger < plan.lodgers; lodger++) {
                signs[lodger] = doors.signOf(lodger, now.doing(lodger, hour));
                for (int shown = 0; shown < 4; shown++) {
                    groups[lodger * 4 + shown] = doors.doingsBySign(lodger, hour, shown);
                }
            }
        }

        /** The room is sure of nothing, if everybody may be away from it and one may be there. */
        private boolean misleads(int liars, int room) {
            boolean mayBeThere = false;
            for (int lodger = 0; lodger < plan.lodgers; lodger++) {
                boolean lies = (liars >> lodger & 1) == 1;
                int there = plan.doingsIn(room, lodger);
                boolean mayBeAway = false;
                for (int shown = 0; shown < 4; shown++) {
                    int group = groups[lodger * 4 + shown];
                    if (lies == (shown != signs[lodger]) && (group & ~there) != 0) {
                        mayBeAway = true;
                        mayBeThere = mayBeThere || (group & there) != 0;
                    }
                }
                if (!mayBeAway) {
                    return false;
                }
            }
            return mayBeThere;
        }
    }

    /** A finder's best round, the last one of which is kept. */
    private static final class Walk {
        private final Plan plan;
        private final Doors doors;
        private final int[] worths = new int[MOST_STEPS * MOST_ROOMS];
        private final int[] row = new int[MOST_STEPS];
        final int[] rooms = new int[MOST_STEPS];
        final int[] looks = new int[MOST_STEPS];
        int length;

        Walk(Plan plan, Doors doors) {
            this.plan = plan;
            this.doors = doors;
        }

        int keepBest(int room, int hour, int steps) {
            weigh(hour, steps);
            int ways = 1;
            for (int step = 1; step < steps; step++) {
                ways *= 3;
            }
            int best = NONE;
            for (int way = 0; way < ways; way++) {
                if (layRow(way, room, steps)) {
                    int worth = worthOfRow(steps);
                    if (worth > best) {
                        best = worth;
                        keepRow(steps);
                    }
                }
            }
            return best;
        }

        private void weigh(int hour, int steps) {
            for (int step = 0; step < steps; step++) {
                for (int room = 0; room < plan.rooms; room++) {
                    worths[step * MOST_ROOMS + room] = doors.worthOf(room, hour + step);
                }
            }
        }

        /** Ways are numbered by threes, the first step highest, so that they come in the rows' order. */
        private boolean layRow(int way, int room, int steps) {
            int rest = way;
            for (int step = steps - 1; step > 0; step--) {
                row[step] = rest % 3 - 1;
                rest /= 3;
            }
            row[0] = room;
            for (int step = 1; step < steps; step++) {
                row[step] += row[step - 1];
                if (row[step] < 0 || row[step] >= plan.rooms) {
                    return false;
                }
            }
            return true;
        }

        private int worthOfRow(int steps) {
            int sum = 0;
            for (int step = 0; step < steps; step++) {
                if (isLook(step, steps)) {
                    sum += worthAt(step);
                }
            }
            return sum;
        }

        private boolean isLook(int step, int steps) {
            int worth = worthAt(step);
            if (worth == 0) {
                return false;
            }
            for (int other = 0; other < steps; other++) {
                if (other != step && row[other] == row[step]) {
                    int otherWorth = worthAt(other);
                    if (otherWorth > worth || otherWorth == worth && other < step) {
                        return false;
                    }
                }
            }
            return true;
        }

        private int worthAt(int step) {
            return worths[step * MOST_ROOMS + row[step]];
        }

        private void keepRow(int steps) {
            for (int step = 0; step < steps; step++) {
                rooms[step] = row[step];
                looks[step] = isLook(step, steps) ? 1 : 0;
            }
            length = steps;
        }
    }

    /** Where finders rest, none of whom gains more by another room. */
    private static final class Game {
        private final Plan plan;
        private final Doors doors;
        private final int[] worths = new int[MOST_ROOMS];
        private final int[] crowd = new int[MOST_ROOMS];
        private final int[] row = new int[MOST_FINDERS];
        final int[] firstRow = new int[MOST_FINDERS];

        Game(Plan plan, Doors doors) {
            this.plan = plan;
            this.doors = doors;
        }

        /** How many rows rest. */
        int play(int hour, int players) {
            for (int room = 0; room < plan.rooms; room++) {
                worths[room] = doors.worthOf(room, hour);
            }
            int ways = 1;
            for (int player = 0; player < players; player++) {
                ways *= plan.rooms;
            }
            int many = 0;
            for (int way = 0; way < ways; way++) {
                layRow(way, players);
                if (isAtRest(players)) {
                    if (many == 0) {
                        System.arraycopy(row, 0, firstRow, 0, players);
                    }
                    many++;
                }
            }
            return many;
        }

        private void layRow(int way, int players) {
            Arrays.fill(crowd, 0);
            int rest = way;
            for (int player = players - 1; player >= 0 && plan.rooms > 0; player--) {
                row[player] = rest % plan.rooms;
                rest /= plan.rooms;
                crowd[row[player]]++;
            }
        }

        private boolean isAtRest(int players) {
            for (int player = 0; player < players; player++) {
                int own = row[player];
                int gain = share(own, crowd[own]);
                for (int room = 0; room < plan.rooms; room++) {
                    if (room != own && share(room, crowd[room] + 1) > gain) {
                        return false;
                    }
                }
            }
            return true;
        }

        private int share(int room, int sharers) {
            return sharers < 1 ? 0 : worths[room] / sharers;
        }
    }

    /** The fewest shoes to lend, the last lending of which is kept. */
    private static final class Lending {
        private final Plan plan;
        private final Affairs now;
        private final Doors doors;
        private final int[] wanted = new int[MOST_LODGERS];
        private final int[] spare = new int[MOST_LODGERS * 2];
        private final int[] wantedBy = new int[4];
        private final int[] spareOf = new int[3];
        private final int[] found = new int[MOST_LODGERS];
        final int[] lenders = new int[MOST_LODGERS];
        boolean isKept;

        Lending(Plan plan, Affairs now, Doors doors) {
            this.plan = plan;
            this.now = now;
            this.doors = doors;
        }

        int keepFewest(int from, int to) {
            Arrays.fill(wantedBy, 0);
            Arrays.fill(spareOf, 0);
            int many = 0;
            for (int lodger = 0; lodger < plan.lodgers; lodger++) {
                countSpare(lodger, from, to);
                wanted[lodger] = NONE;
                if (isShoeless(lodger, from, to)) {
                    wanted[lodger] = helpfulShoes(lodger, from, to);
                    wantedBy[wanted[lodger]]++;
                    many++;
                }
            }
            if (!canServe()) {
                return NONE;
            }
            serveAll();
            System.arraycopy(found, 0, lenders, 0, plan.lodgers);
            isKept = true;
            return many;
        }

        private boolean isShoeless(int lodger, int from, int to) {
            for (int hour = from; hour <= to; hour++) {
                int doing = now.doing(lodger, hour);
                if (plan.lawFor(doing) != 0 && doors.signOf(lodger, doing) == 0) {
                    return true;
                }
            }
            return false;
        }

        /** Which shoes each by itself would leave him shoeless in none of the hours, as a sign. */
        private int helpfulShoes(int lodger, int from, int to) {
            int has = now.shoeKinds(lodger);
            int helpful = BOTH & ~has;
            for (int hour = from; hour <= to; hour++) {
                int due = plan.lawFor(now.doing(lodger, hour));
                if (due != 0 && (due & has) == 0) {
                    helpful &= due;
                }
            }
            return helpful;
        }

        private void countSpare(int lodger, int from, int to) {
            int needed = 0;
            for (int hour = from; hour <= to; hour++) {
                needed |= plan.lawFor(now.doing(lodger, hour));
            }
            for (int shoe = LEFT; shoe <= RIGHT; shoe++) {
                int many = (needed & shoe) == 0 ? now.shoesOf(lodger, shoe) : 0;
                spare[lodger * 2 + shoe - 1] = many;
                spareOf[shoe] += many;
            }
        }

        /** Who wants a shoe has none of it, so it is never his own to lend: numbers alone decide. */
        private boolean canServe() {
            int all = wantedBy[LEFT] + wantedBy[RIGHT] + wantedBy[BOTH];
            return wantedBy[0] == 0 && wantedBy[LEFT] <= spareOf[LEFT] && wantedBy[RIGHT] <= spareOf[RIGHT]
                    && all <= spareOf[LEFT] + spareOf[RIGHT];
        }

        private void serveAll() {
            for (int lodger = 0; lodger < plan.lodgers; lodger++) {
                found[lodger] = NONE;
                if (wanted[lodger] != NONE) {
                    wantedBy[wanted[lodger]]--;
                    serve(lodger);
                }
            }
        }

        private void serve(int lodger) {
            for (int lender = 0; lender < plan.lodgers; lender++) {
                for (int shoe = LEFT; shoe <= RIGHT; shoe++) {
                    if ((wanted[lodger] & shoe) != 0 && canSpare(lender, shoe)) {
                        spare[lender * 2 + shoe - 1]--;
                        spareOf[shoe]--;
                        found[lodger] = 10 * lender + shoe;
                        return;
                    }
                }
            }
        }

        /** Whether he has it to spare, and those behind can still be served without it. */
        private boolean canSpare(int lender, int shoe) {
            if (spare[lender * 2 + shoe - 1] < 1) {
                return false;
            }
            spareOf[shoe]--;
            boolean servesRest = canServe();
            spareOf[shoe]++;
            return servesRest;
        }
    }

    /** The words of a code, laid anew when another distance is asked for. */
    private static final class Slippers {
        final int[] words = new int[MOST_WORDS];
        int many;
        private int apart;

        void lay(int distance) {
            if (apart == distance) {
                return;
            }
            apart = distance;
            many = 0;
            for (int number = 0; number < 1 << MOST_KINDS && many < MOST_WORDS; number++) {
                if (isApart(number)) {
                    words[many] = number;
                    many++;
                }
            }
        }

        private boolean isApart(int number) {
            for (int i = 0; i < many; i++) {
                if (Integer.bitCount(number ^ words[i]) < apart) {
                    return false;
                }
            }
            return true;
        }

        int kindsFor(int n) {
            for (int kinds = 0; kinds <= MOST_KINDS && n <= many; kinds++) {
                if (words[n - 1] < 1 << kinds) {
                    return kinds;
                }
            }
            return NONE;
        }

        int mended(int number, int n) {
            int reach = (apart - 1) / 2;
            for (int i = 0; i < n && i < many; i++) {
                if (Integer.bitCount(number ^ words[i]) <= reach) {
                    return i;
                }
            }
            return NONE;
        }
    }
}
