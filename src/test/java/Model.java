import java.util.ArrayList;
import java.util.Arrays;
import java.util.HashMap;
import java.util.List;
import java.util.Map;
import java.util.NoSuchElementException;
import java.util.TreeSet;

/** The document once more, word by word and by trying all there is, as a measure for the class. */
final class Model {
    static final String[] DOINGS = {"out", "asleep", "cross", "calm"};
    static final String[] SIGNS = {"none", "left", "right", "both"};

    record May(int lodger, int doing, int from, int to) { }

    record Lent(int from, int to, int shoe) { }

    record Token(String text, int place) { }

    private static final class Fault extends Exception {
        private static final long serialVersionUID = 1L;
        final int code;
        final int place;

        Fault(int code, int place) {
            this.code = code;
            this.place = place;
        }
    }

    static final class Told {
        final List<Integer> goods = new ArrayList<>();
        final List<Integer> homes = new ArrayList<>();
        final List<Integer> feet = new ArrayList<>();
        final List<Integer> finders = new ArrayList<>();
        final List<May> mays = new ArrayList<>();
        final Map<Integer, Integer> laws = new HashMap<>();
    }

    private StringBuilder tape = new StringBuilder();
    private Told told = new Told();
    private int faultPlace = -1;
    private final int[] status = new int[3];
    private List<Lent> lent = new ArrayList<>();
    private Map<Integer, Integer> seen = new HashMap<>();
    private int seenHour = -1;
    private int[][] day = new int[0][24];
    private int[][] rounds = new int[0][24];
    private List<int[]> walk = null;
    private int[] lending = null;
    private Object[] picture = null;

    int feed(int a, int b, int c, int d, int e) {
        if (tape.length() + 20 > 700) {
            return -1;
        }
        for (int number : new int[] {a, b, c, d, e}) {
            for (int i = 3; i >= 0; i--) {
                tape.append((char) (number >> (8 * i) & 255));
            }
        }
        return tape.length();
    }

    int house(int n) {
        if (n < 0 || n > tape.length()) {
            throw new IllegalArgumentException();
        }
        String text = tape.substring(0, n);
        tape = new StringBuilder();
        try {
            told = new Parse(text).house();
        } catch (Fault fault) {
            faultPlace = fault.place;
            status[0]++;
            return fault.code;
        }
        faultPlace = -1;
        lent = new ArrayList<>();
        seen = new HashMap<>();
        seenHour = -1;
        day = new int[told.homes.size()][24];
        for (int l = 0; l < day.length; l++) {
            for (int h = 0; h < 24; h++) {
                day[l][h] = mays(l, h).get(0);
            }
        }
        rounds = new int[told.finders.size()][24];
        for (int f = 0; f < rounds.length; f++) {
            Arrays.fill(rounds[f], told.finders.get(f));
        }
        walk = null;
        lending = null;
        picture = null;
        return 0;
    }

    int fault() {
        return faultPlace;
    }

    int count(int what) {
        return switch (what) {
            case 0 -> told.goods.size();
            case 1 -> told.homes.size();
            case 2 -> told.finders.size();
            case 3 -> told.mays.size();
            case 4 -> lent.size();
            case 5 -> seenHour;
            case 6 -> seen.keySet().stream().mapToInt(r -> 1 << r).sum();
            case 7 -> tape.length();
            case 8, 9, 10 -> status[what - 8];
            case 20, 21, 22, 23 -> law(what - 20);
            default -> throw new NoSuchElementException();
        };
    }

    int room(int room, int what) {
        among(room, told.goods.size());
        among(what, 2);
        return what == 0 ? told.goods.get(room) : told.homes.indexOf(room);
    }

    int lodger(int lodger, int what) {
        among(lodger, told.homes.size());
        among(what, 3);
        return what == 0 ? told.homes.get(lodger) : shoes(lodger, what);
    }

    int may(int lodger, int hour, int i) {
        among(lodger, told.homes.size());
        among(hour, 24);
        List<Integer> all = mays(lodger, hour);
        if (i == -1) {
            return all.size();
        }
        among(i, all.size());
        return all.get(i);
    }

    int says(int lodger, int does) {
        among(lodger, told.homes.size());
        boolean own = does >= 0 && does <= 3;
        boolean other = does >= 10 && does - 10 < told.goods.size() && does - 10 != told.homes.get(lodger);
        if (!own && !other) {
            throw new NoSuchElementException();
        }
        return signOf(lodger, does);
    }

    int lend(int lodger, int to, int shoe) {
        among(lodger, told.homes.size());
        among(to, told.homes.size());
        boolean isShoe = shoe == 1 || shoe == 2;
        if (lent.size() == 12 || lodger == to || !isShoe || shoes(lodger, shoe) == 0) {
            status[1]++;
            return -1;
        }
        lent.add(new Lent(lodger, to, shoe));
        return lent.size();
    }

    int back() {
        if (lent.isEmpty()) {
            return -1;
        }
        lent.remove(lent.size() - 1);
        return lent.size();
    }

    void draw(int seed) {
        int s = seed;
        for (int h = 0; h < 24; h++) {
            for (int l = 0; l < day.length; l++) {
                List<Integer> all = mays(l, h);
                int i = 0;
                if (all.size() > 1) {
                    s = s * 1103515245 + 12345;
                    i = (s >> 16 & 32767) % all.size();
                }
                day[l][h] = all.get(i);
            }
        }
    }

    int does(int lodger, int hour) {
        among(lodger, told.homes.size());
        among(hour, 24);
        return day[lodger][hour];
    }

    int sign(int room, int hour) {
        among(room, told.goods.size());
        among(hour, 24);
        int lodger = told.homes.indexOf(room);
        return lodger < 0 ? 3 : signOf(lodger, day[lodger][hour]);
    }

    int look(int finder, int hour, int room) {
        among(finder, told.finders.size());
        among(hour, 24);
        among(room, told.goods.size());
        int was = rounds[finder][hour];
        rounds[finder][hour] = room;
        return was;
    }

    int theft(int room, int what) {
        among(room, told.goods.size());
        among(what, 2);
        int[] left = told.goods.stream().mapToInt(g -> g).toArray();
        int[] answer = {-1, -1};
        for (int h = 0; h < 24; h++) {
            for (int f = 0; f < rounds.length; f++) {
                int at = rounds[f][h];
                if (left[at] > 0 && sign(at, h) == 0) {
                    left[at] = 0;
                    if (at == room) {
                        answer = new int[] {f, h};
                    }
                }
            }
        }
        return answer[what];
    }

    int see(int room, int hour, int sign) {
        among(room, told.goods.size());
        among(hour, 24);
        if (sign < 0 || sign > 3 || seenHour == hour && seen.containsKey(room)) {
            status[2]++;
            return -1;
        }
        if (seenHour != hour) {
            seen = new HashMap<>();
            seenHour = hour;
        }
        seen.put(room, sign);
        return seen.size();
    }

    int forget() {
        int many = seen.size();
        seen = new HashMap<>();
        seenHour = -1;
        return many;
    }

    int cases() {
        List<int[]> all = casesNow();
        return all == null ? -2 : all.size();
    }

    int inCase(int i, int lodger) {
        among(lodger, told.homes.size());
        List<int[]> all = casesNow();
        among(i, all == null ? 0 : all.size());
        return all.get(i)[lodger];
    }

    int sure(int what) {
        among(what, 3);
        List<int[]> all = casesNow();
        if (all == null) {
            return -2;
        }
        int nobody = 0;
        int somebody = 0;
        int knock = -1;
        int least = Integer.MAX_VALUE;
        for (int r = 0; r < told.goods.size() && !all.isEmpty(); r++) {
            int with = countWith(all, r);
            nobody |= with == 0 ? 1 << r : 0;
            somebody |= with == all.size() ? 1 << r : 0;
            int greater = Math.max(with, all.size() - with);
            if (greater < least) {
                least = greater;
                knock = r;
            }
        }
        return what == 0 ? nobody : what == 1 ? somebody : knock;
    }

    int where(int lodger) {
        among(lodger, told.homes.size());
        List<int[]> all = casesNow();
        if (all == null) {
            return -2;
        }
        int bits = 0;
        for (int[] row : all) {
            int room = roomOf(lodger, row[lodger]);
            bits |= room < 0 ? 0 : 1 << room;
        }
        return bits;
    }

    int misled(int room, int hour, int what) {
        among(room, told.goods.size());
        among(hour, 24);
        among(what, 2);
        List<int[]> rows = rows(hour);
        if (rows == null) {
            return -2;
        }
        Map<String, List<int[]>> bySigns = new HashMap<>();
        for (int[] row : rows) {
            bySigns.computeIfAbsent(Arrays.toString(signs(row)), k -> new ArrayList<>()).add(row);
        }
        int[] real = new int[day.length];
        for (int l = 0; l < real.length; l++) {
            real[l] = day[l][hour];
        }
        real = signs(real);
        int[] best = {-1, -1};
        for (List<int[]> group : bySigns.values()) {
            int with = countWith(group, room);
            if (with == 0 || with == group.size()) {
                continue;
            }
            int[] shown = signs(group.get(0));
            int bits = 0;
            for (int l = 0; l < real.length; l++) {
                bits |= shown[l] == real[l] ? 0 : 1 << l;
            }
            int many = Integer.bitCount(bits);
            if (best[0] < 0 || many < best[0] || many == best[0] && bits < best[1]) {
                best = new int[] {many, bits};
            }
        }
        return best[what];
    }

    int chance(int room, int hour) {
        among(room, told.goods.size());
        among(hour, 24);
        int lodger = told.homes.indexOf(room);
        if (lodger < 0) {
            return 0;
        }
        List<Integer> all = mays(lodger, hour);
        return 27720 / all.size() * (int) all.stream().filter(d -> signOf(lodger, d) == 0).count();
    }

    int round(int room, int hour, int n) {
        among(room, told.goods.size());
        among(hour, 24);
        if (n < 1 || n > 6 || hour + n > 24) {
            throw new IllegalArgumentException();
        }
        List<int[]> all = new ArrayList<>();
        allWalks(new int[n], 0, room, all);
        int best = -1;
        for (int[] row : all) {
            int[] looks = new int[n];
            int sum = 0;
            for (int r = 0; r < told.goods.size(); r++) {
                int most = 0;
                int when = -1;
                for (int i = 0; i < n; i++) {
                    int worth = told.goods.get(r) * chance(r, hour + i);
                    if (row[i] == r && worth > most) {
                        most = worth;
                        when = i;
                    }
                }
                sum += most;
                if (when >= 0) {
                    looks[when] = 1;
                }
            }
            if (sum > best) {
                best = sum;
                walk = List.of(row, looks);
            }
        }
        return best;
    }

    private void allWalks(int[] row, int i, int room, List<int[]> into) {
        if (room < 0 || room >= told.goods.size()) {
            return;
        }
        row[i] = room;
        if (i == row.length - 1) {
            into.add(row.clone());
            return;
        }
        for (int step = -1; step <= 1; step++) {
            allWalks(row, i + 1, room + step, into);
        }
    }

    int path(int i, int what) {
        among(i, walk == null ? 0 : walk.get(0).length);
        among(what, 2);
        return walk.get(what)[i];
    }

    int rests(int hour, int k, int i) {
        among(hour, 24);
        if (k < 1 || k > 3) {
            throw new IllegalArgumentException();
        }
        if (i != -1) {
            among(i, k);
        }
        int size = told.goods.size();
        List<int[]> all = new ArrayList<>();
        for (int a = 0; a < size; a++) {
            for (int b = 0; b < (k > 1 ? size : 1); b++) {
                for (int c = 0; c < (k > 2 ? size : 1); c++) {
                    int[] row = Arrays.copyOf(new int[] {a, b, c}, k);
                    if (rests(row, hour)) {
                        all.add(row);
                    }
                }
            }
        }
        if (i == -1) {
            return all.size();
        }
        among(0, all.size());
        return all.get(0)[i];
    }

    private boolean rests(int[] row, int hour) {
        for (int f = 0; f < row.length; f++) {
            int now = gain(row, f, hour);
            for (int r = 0; r < told.goods.size(); r++) {
                int[] other = row.clone();
                other[f] = r;
                if (gain(other, f, hour) > now) {
                    return false;
                }
            }
        }
        return true;
    }

    private int gain(int[] row, int f, int hour) {
        int there = (int) Arrays.stream(row).filter(r -> r == row[f]).count();
        return told.goods.get(row[f]) * chance(row[f], hour) / there;
    }

    int fewest(int a, int b) {
        if (a < 0 || a > 23 || b < 0 || b > 23 || b < a) {
            throw new IllegalArgumentException();
        }
        int[] row = new int[day.length];
        Arrays.fill(row, -1);
        List<Integer> poor = new ArrayList<>();
        for (int l = 0; l < day.length; l++) {
            if (shoeless(l, a, b, shoes(l, 1), shoes(l, 2))) {
                poor.add(l);
            }
        }
        if (!serve(row, poor, 0, a, b)) {
            return -1;
        }
        lending = row;
        return poor.size();
    }

    private boolean shoeless(int l, int a, int b, int left, int right) {
        for (int h = a; h <= b; h++) {
            int due = law(day[l][h]);
            boolean shows = (due & 1) != 0 && left > 0 || (due & 2) != 0 && right > 0;
            if (due != 0 && !shows) {
                return true;
            }
        }
        return false;
    }

    private boolean serve(int[] row, List<Integer> poor, int i, int a, int b) {
        if (i == poor.size()) {
            return true;
        }
        int l = poor.get(i);
        for (int code = 0; code < 10 * day.length; code++) {
            int from = code / 10;
            int shoe = code % 10;
            if (shoe != 1 && shoe != 2 || from == l || shoes(l, shoe) > 0 || needs(from, shoe, a, b)) {
                continue;
            }
            int wanted = code;
            int used = (int) Arrays.stream(row).filter(c -> c == wanted).count();
            boolean helps = !shoeless(l, a, b, shoes(l, 1) + (shoe == 1 ? 1 : 0), shoes(l, 2) + (shoe == 2 ? 1 : 0));
            if (used >= shoes(from, shoe) || !helps) {
                continue;
            }
            row[l] = code;
            if (serve(row, poor, i + 1, a, b)) {
                return true;
            }
            row[l] = -1;
        }
        return false;
    }

    private boolean needs(int l, int shoe, int a, int b) {
        for (int h = a; h <= b; h++) {
            if ((law(day[l][h]) & shoe) != 0) {
                return true;
            }
        }
        return false;
    }

    int lender(int lodger) {
        among(lodger, told.homes.size());
        if (lending == null) {
            throw new NoSuchElementException();
        }
        return lending[lodger];
    }

    private static List<Integer> words(int d, int below) {
        List<Integer> words = new ArrayList<>();
        for (int i = 0; i < below; i++) {
            int number = i;
            if (words.stream().allMatch(w -> Integer.bitCount(w ^ number) >= d)) {
                words.add(i);
            }
        }
        return words;
    }

    int kinds(int n, int d) {
        if (n < 1 || n > 40 || d < 1 || d > 3) {
            throw new IllegalArgumentException();
        }
        for (int k = 0; k <= 8; k++) {
            if (words(d, 1 << k).size() >= n) {
                return k;
            }
        }
        return -1;
    }

    int word(int i, int d) {
        among(i, 40);
        if (d < 1 || d > 3) {
            throw new IllegalArgumentException();
        }
        List<Integer> words = words(d, 256);
        return i < words.size() ? words.get(i) : -1;
    }

    int mend(int number, int n, int d) {
        if (n < 1 || n > 40 || d < 1 || d > 3 || number < 0 || number > 255 || words(d, 256).size() < n) {
            throw new IllegalArgumentException();
        }
        List<Integer> words = words(d, 256).subList(0, n);
        int best = -1;
        int least = (d - 1) / 2 + 1;
        for (int i = 0; i < n; i++) {
            int away = Integer.bitCount(number ^ words.get(i));
            if (away < least) {
                least = away;
                best = i;
            }
        }
        return best;
    }

    long fire(int lodger, int room, int hour, int wakes, int what) {
        among(lodger, told.homes.size());
        among(room, told.goods.size());
        among(hour, 24);
        among(what, 2);
        if (wakes < 0 || wakes > 10) {
            throw new IllegalArgumentException();
        }
        if (day[lodger][hour] != 1) {
            return 1;
        }
        int coming = Math.abs(told.homes.get(lodger) - room);
        long burns = 1;
        long all = 1;
        for (int minute = 0; minute < coming; minute++) {
            int away = coming - minute;
            if (away <= 2) {
                burns *= 10 - wakes;
                all *= 10;
            }
        }
        long upper = all - burns;
        for (int p : new int[] {2, 5}) {
            while (upper % p == 0 && all % p == 0) {
                upper /= p;
                all /= p;
            }
        }
        return what == 0 ? upper : all;
    }

    void image() {
        picture = new Object[] {new ArrayList<>(lent), new HashMap<>(seen), seenHour, copy(day), copy(rounds)};
    }

    @SuppressWarnings("unchecked")
    boolean restore() {
        if (picture == null) {
            return false;
        }
        lent = new ArrayList<>((List<Lent>) picture[0]);
        seen = new HashMap<>((Map<Integer, Integer>) picture[1]);
        seenHour = (Integer) picture[2];
        day = copy((int[][]) picture[3]);
        rounds = copy((int[][]) picture[4]);
        return true;
    }

    private static int[][] copy(int[][] rows) {
        return Arrays.stream(rows).map(int[]::clone).toArray(int[][]::new);
    }

    private static void among(int number, int many) {
        if (number < 0 || number >= many) {
            throw new NoSuchElementException();
        }
    }

    private int law(int doing) {
        int what = doing >= 10 ? 0 : doing;
        return told.laws.getOrDefault(what, new int[] {3, 1, 2, 1}[what]);
    }

    private int shoes(int lodger, int shoe) {
        int many = (told.feet.get(lodger) & shoe) != 0 ? 1 : 0;
        for (Lent one : lent) {
            many += one.shoe != shoe ? 0 : one.to == lodger ? 1 : one.from == lodger ? -1 : 0;
        }
        return many;
    }

    private int signOf(int lodger, int doing) {
        int left = shoes(lodger, 1) > 0 ? 1 : 0;
        int right = shoes(lodger, 2) > 0 ? 2 : 0;
        return law(doing) & (left + right);
    }

    private int[] signs(int[] row) {
        int[] signs = new int[row.length];
        for (int l = 0; l < row.length; l++) {
            signs[l] = signOf(l, row[l]);
        }
        return signs;
    }

    private List<Integer> mays(int lodger, int hour) {
        TreeSet<Integer> all = new TreeSet<>();
        for (May may : told.mays) {
            if (may.lodger == lodger && may.from <= hour && hour <= may.to) {
                all.add(may.doing);
            }
        }
        if (all.isEmpty()) {
            all.add(0);
        }
        return new ArrayList<>(all);
    }

    private int roomOf(int lodger, int doing) {
        return doing == 0 ? -1 : doing < 10 ? told.homes.get(lodger) : doing - 10;
    }

    private int countWith(List<int[]> rows, int room) {
        int many = 0;
        for (int[] row : rows) {
            boolean some = false;
            for (int l = 0; l < row.length; l++) {
                some |= roomOf(l, row[l]) == room;
            }
            many += some ? 1 : 0;
        }
        return many;
    }

    private List<int[]> rows(int hour) {
        List<int[]> rows = new ArrayList<>();
        rows.add(new int[0]);
        for (int l = 0; l < told.homes.size(); l++) {
            List<int[]> longer = new ArrayList<>();
            List<Integer> all = mays(l, hour);
            for (int[] row : rows) {
                for (int doing : all) {
                    int[] more = Arrays.copyOf(row, l + 1);
                    more[l] = doing;
                    longer.add(more);
                }
            }
            rows = longer;
            if (rows.size() > 4000) {
                return null;
            }
        }
        return rows;
    }

    private List<int[]> casesNow() {
        List<int[]> rows = rows(seenHour < 0 ? 0 : seenHour);
        if (rows == null) {
            return null;
        }
        List<int[]> held = new ArrayList<>();
        for (int[] row : rows) {
            boolean holds = true;
            for (Map.Entry<Integer, Integer> one : seen.entrySet()) {
                int lodger = told.homes.indexOf(one.getKey());
                int shown = lodger < 0 ? 3 : signOf(lodger, row[lodger]);
                holds &= shown == one.getValue();
            }
            if (holds) {
                held.add(row);
            }
        }
        return held;
    }

    /** Cuts the whole text into tokens first, then goes along them. */
    private static final class Parse {
        private final List<Token> tokens = new ArrayList<>();
        private int at = 0;
        private final Told told = new Told();

        Parse(String text) {
            java.util.regex.Matcher m = java.util.regex.Pattern
                    .compile("[a-z]+|[0-9]+|;|[ \\n]+|.", java.util.regex.Pattern.DOTALL).matcher(text);
            while (m.find()) {
                if (!m.group().matches("[ \\n]+")) {
                    tokens.add(new Token(m.group(), m.start()));
                }
            }
            tokens.add(new Token("", text.length()));
        }

        Told house() throws Fault {
            while (at < tokens.size() - 1) {
                Token first = tokens.get(at);
                switch (take("room", "lodger", "finder", "may", "law")) {
                    case 0 -> {
                        most(first, told.goods.size(), 8);
                        told.goods.add(number(0, 99));
                    }
                    case 1 -> lodger(first);
                    case 2 -> {
                        most(first, told.finders.size(), 3);
                        told.finders.add(known(told.goods.size()));
                    }
                    case 3 -> may(first);
                    default -> law();
                }
                take(";");
            }
            return told;
        }

        private void lodger(Token first) throws Fault {
            most(first, told.homes.size(), 6);
            Token where = tokens.get(at);
            int room = known(told.goods.size());
            if (told.homes.contains(room)) {
                throw new Fault(4, where.place);
            }
            told.homes.add(room);
            int foot = List.of("left", "right").indexOf(tokens.get(at).text);
            told.feet.add(foot < 0 ? 3 : foot + 1);
            at += foot < 0 ? 0 : 1;
        }

        private void may(Token first) throws Fault {
            most(first, told.mays.size(), 40);
            int lodger = known(told.homes.size());
            int doing = take("out", "asleep", "cross", "calm", "at");
            if (doing == 4) {
                Token where = tokens.get(at);
                int room = known(told.goods.size());
                if (told.homes.get(lodger) == room) {
                    throw new Fault(4, where.place);
                }
                doing = 10 + room;
            }
            int from = number(0, 23);
            told.mays.add(new May(lodger, doing, from, number(from, 23)));
        }

        private void law() throws Fault {
            Token word = tokens.get(at);
            int what = take("out", "asleep", "cross", "calm");
            if (told.laws.containsKey(what)) {
                throw new Fault(5, word.place);
            }
            told.laws.put(what, take("none", "left", "right", "both"));
        }

        private int take(String... words) throws Fault {
            Token token = tokens.get(at);
            int i = Arrays.asList(words).indexOf(token.text);
            if (i < 0) {
                throw new Fault(1, token.place);
            }
            at++;
            return i;
        }

        private int number(int least, int most) throws Fault {
            Token token = tokens.get(at);
            if (!token.text.matches("[0-9]+")) {
                throw new Fault(1, token.place);
            }
            if (token.text.length() > 3) {
                throw new Fault(2, token.place);
            }
            int number = Integer.parseInt(token.text);
            if (number < least || number > most) {
                throw new Fault(2, token.place);
            }
            at++;
            return number;
        }

        private int known(int many) throws Fault {
            Token token = tokens.get(at);
            int number = number(0, 999);
            if (number >= many) {
                throw new Fault(3, token.place);
            }
            return number;
        }

        private static void most(Token first, int many, int most) throws Fault {
            if (many >= most) {
                throw new Fault(2, first.place);
            }
        }
    }
}
