import java.util.ArrayList;
import java.util.List;
import java.util.NoSuchElementException;
import java.util.Random;

/** Long random runs of calls, whose answers are compared with those of the model. */
public final class ModelTest {
    private static final int RUNS = 4000;
    private static final int CALLS = 480;

    private interface Call {
        long answer();
    }

    private final Random random;
    private final ShoeHouse tried = new ShoeHouse();
    private final Model model = new Model();
    private final List<String> calls = new ArrayList<>();
    private final boolean isLender;
    private int rooms;
    private int lodgers;

    private ModelTest(long seed) {
        random = new Random(seed * 0x9E3779B97F4A7C15L);
        isLender = seed % 4 == 0;
    }

    public static void main(String[] args) {
        for (int run = 0; run < RUNS; run++) {
            String wrong = new ModelTest(run).run();
            if (wrong != null) {
                System.out.println("run " + run + ": " + wrong);
                System.exit(1);
            }
        }
    }

    private String run() {
        for (int i = 0; i < CALLS; i++) {
            String wrong = i % 120 == 0 || random.nextInt(150) == 0 ? newHouse() : someCall();
            if (wrong != null) {
                return String.join("\n", calls) + "\n" + wrong;
            }
        }
        return null;
    }

    private String compare(String call, Call one, Call other) {
        calls.add(call);
        String got = outcome(one);
        String due = outcome(other);
        return got.equals(due) ? null : call + " answered " + got + ", the model " + due;
    }

    private static String outcome(Call call) {
        try {
            return String.valueOf(call.answer());
        } catch (NoSuchElementException e) {
            return e.getClass().getName();
        } catch (IllegalArgumentException e) {
            return e.getClass().getName();
        }
    }

    private int below(int n) {
        return random.nextInt(n);
    }

    private int any(int n) {
        return n < 1 ? 0 : below(n);
    }

    /** Mostly a number below n, now and then one beside it or far off. */
    private int near(int n) {
        int wild = below(30);
        if (wild == 0) {
            return -1;
        }
        if (wild == 1) {
            return n;
        }
        if (wild == 2) {
            return random.nextInt();
        }
        return any(n);
    }

    private String newHouse() {
        String text = houseText();
        if (below(3) == 0) {
            text = spoil(text);
        }
        String cut = text.length() > 700 ? text.substring(0, 700) : text;
        for (int i = 0; i < cut.length(); i += 20) {
            int[] n = numbers(cut, i);
            String wrong = compare("feed of " + cut.substring(i, Math.min(i + 20, cut.length())),
                    () -> tried.feed(n[0], n[1], n[2], n[3], n[4]), () -> model.feed(n[0], n[1], n[2], n[3], n[4]));
            if (wrong != null) {
                return wrong;
            }
        }
        int length = below(40) == 0 ? cut.length() + below(30) - 5 : cut.length();
        String wrong = compare("house(" + length + ")", () -> tried.house(length), () -> model.house(length));
        rooms = model.count(0);
        lodgers = model.count(1);
        return wrong != null ? wrong : compare("fault()", tried::fault, model::fault);
    }

    private static int[] numbers(String text, int from) {
        int[] numbers = new int[5];
        for (int i = 0; i < 20; i++) {
            int b = from + i < text.length() ? text.charAt(from + i) : ' ';
            numbers[i / 4] = numbers[i / 4] << 8 | b & 255;
        }
        return numbers;
    }

    private String houseText() {
        StringBuilder text = new StringBuilder();
        rooms = below(20) == 0 ? below(3) : 1 + below(8);
        lodgers = Math.min(rooms, below(20) == 0 ? 0 : 1 + below(6));
        for (int i = 0; i < rooms; i++) {
            text.append("room ").append(below(6) == 0 ? 0 : below(100)).append(';');
        }
        List<Integer> homes = new ArrayList<>();
        for (int i = 0; i < lodgers; i++) {
            int home = below(rooms);
            while (homes.contains(home)) {
                home = (home + 1) % rooms;
            }
            homes.add(home);
            String foot = new String[] {"", "", " left", " right"}[below(4)];
            text.append("lodger ").append(home).append(foot).append(";");
        }
        for (int i = below(4); i > 0 && rooms > 0; i--) {
            text.append("finder").append(below(2) == 0 ? " " : "\n").append(below(rooms)).append(";");
        }
        for (int what = 0; what < 4; what++) {
            if (below(2) == 0) {
                text.append("law ").append(Model.DOINGS[what]).append(' ').append(Model.SIGNS[below(4)]).append(";");
            }
        }
        int mays = lodgers == 0 ? 0 : below(5) == 0 ? 38 + below(4) : below(41);
        int width = below(3) == 0 ? 24 : 8;
        boolean isDense = below(4) == 0;
        for (int i = 0; i < mays && text.length() < 685; i++) {
            text.append(isDense ? denseMayText(homes, i) : mayText(homes, width));
        }
        return text.toString();
    }

    private String mayText(List<Integer> homes, int width) {
        int lodger = below(lodgers);
        int from = below(width);
        int to = Math.min(23, from + below(width));
        int what = below(6);
        String doing = what < 4 ? Model.DOINGS[what] : "at";
        if (what > 3) {
            int room = below(rooms);
            if (room == homes.get(lodger)) {
                room = (room + 1) % rooms;
            }
            doing = room == homes.get(lodger) ? "out" : "at " + room;
        }
        return "may" + lodger + doing + " " + from + " " + to + ";";
    }

    /** Many doings in one hour, so that rows come to be more than 4000. */
    private String denseMayText(List<Integer> homes, int i) {
        int lodger = i % lodgers;
        int what = i / lodgers;
        int room = (homes.get(lodger) + what - 3) % rooms;
        String doing = what < 4 ? Model.DOINGS[what] : room == homes.get(lodger) ? "out" : "at" + room;
        return "may" + lodger + doing + " 0 " + (20 + below(4)) + ";";
    }

    private String spoil(String text) {
        StringBuilder spoilt = new StringBuilder(text);
        String[] bits = {"9", "0", ";", " ", "x", "\t", "\u0000", "\u00e9", "room 1;", "room 100;", "finder 0;",
            "lodger 0;", "may 0 at 0 1 2;", "law out none;", "law calm both;", "0000", "left", "lodger 7;", "may 5 out 24 24;",
            "may 0 out 23 22;", "finder 8;", "law asleep", "room"};
        for (int i = 1 + below(2); i > 0; i--) {
            int at = below(spoilt.length() + 1);
            if (below(3) == 0 && at < spoilt.length()) {
                spoilt.deleteCharAt(at);
            } else if (below(3) == 0) {
                spoilt.append(bits[below(bits.length)]);
            } else {
                spoilt.insert(at, bits[below(bits.length)]);
            }
        }
        return spoilt.toString();
    }

    private String lendCall() {
        int a = any(lodgers);
        int b = lodgers < 2 || below(10) == 0 ? a : (a + 1 + below(lodgers - 1)) % lodgers;
        int c = 1 + below(2);
        return compare("lend(" + a + ", " + b + ", " + c + ")", () -> tried.lend(a, b, c), () -> model.lend(a, b, c));
    }

    private String someCall() {
        if (isLender && below(3) == 0) {
            return lendCall();
        }
        int a;
        int b;
        int c;
        switch (below(36)) {
            case 0:
                a = below(26) - 1;
                return compare("count(" + a + ")", () -> tried.count(a), () -> model.count(a));
            case 1:
                a = near(rooms);
                b = near(2);
                return compare("room(" + a + ", " + b + ")", () -> tried.room(a, b), () -> model.room(a, b));
            case 2:
                a = near(lodgers);
                b = near(3);
                return compare("lodger(" + a + ", " + b + ")", () -> tried.lodger(a, b), () -> model.lodger(a, b));
            case 3:
                a = near(lodgers);
                b = near(24);
                c = near(7) - 1;
                return compare("may(" + a + ", " + b + ", " + c + ")", () -> tried.may(a, b, c), () -> model.may(a, b, c));
            case 4:
                a = near(lodgers);
                b = near(20);
                return compare("says(" + a + ", " + b + ")", () -> tried.says(a, b), () -> model.says(a, b));
            case 5:
            case 6:
            case 7:
                a = near(lodgers);
                b = near(lodgers);
                c = near(2) + 1;
                return compare("lend(" + a + ", " + b + ", " + c + ")", () -> tried.lend(a, b, c), () -> model.lend(a, b, c));
            case 8:
                return compare("back()", tried::back, model::back);
            case 9:
                a = random.nextInt();
                return compare("draw(" + a + ")", () -> nothing(() -> tried.draw(a)), () -> nothing(() -> model.draw(a)));
            default:
                return otherCall();
        }
    }

    private static long nothing(Runnable call) {
        call.run();
        return 0;
    }

    private String otherCall() {
        int a;
        int b;
        int c;
        switch (below(24)) {
            case 0:
                a = near(lodgers);
                b = near(24);
                return compare("does(" + a + ", " + b + ")", () -> tried.does(a, b), () -> model.does(a, b));
            case 1:
                a = near(rooms);
                b = near(24);
                return compare("sign(" + a + ", " + b + ")", () -> tried.sign(a, b), () -> model.sign(a, b));
            case 2:
                a = near(3);
                b = near(24);
                c = near(rooms);
                return compare("look(" + a + ", " + b + ", " + c + ")", () -> tried.look(a, b, c), () -> model.look(a, b, c));
            case 3:
                a = near(rooms);
                b = near(2);
                return compare("theft(" + a + ", " + b + ")", () -> tried.theft(a, b), () -> model.theft(a, b));
            case 4:
            case 5:
            case 6:
                a = near(rooms);
                b = below(8) == 0 ? near(24) : Math.max(0, model.count(5));
                c = below(3) > 0 && a >= 0 && a < model.count(0) && b >= 0 && b < 24 ? model.sign(a, b) : near(4);
                return compare("see(" + a + ", " + b + ", " + c + ")", () -> tried.see(a, b, c), () -> model.see(a, b, c));
            case 7:
                return below(3) > 0 ? null : compare("forget()", tried::forget, model::forget);
            case 8:
                return compare("cases()", tried::cases, model::cases);
            case 9:
                a = near(Math.max(1, model.cases()));
                b = near(lodgers);
                return compare("inCase(" + a + ", " + b + ")", () -> tried.inCase(a, b), () -> model.inCase(a, b));
            case 10:
            case 11:
                a = near(3);
                return compare("sure(" + a + ")", () -> tried.sure(a), () -> model.sure(a));
            case 12:
                a = near(lodgers);
                return compare("where(" + a + ")", () -> tried.where(a), () -> model.where(a));
            case 13:
                a = near(rooms);
                b = near(24);
                c = near(2);
                return compare("misled(" + a + ", " + b + ", " + c + ")", () -> tried.misled(a, b, c), () -> model.misled(a, b, c));
            case 14:
                a = near(rooms);
                b = near(24);
                return compare("chance(" + a + ", " + b + ")", () -> tried.chance(a, b), () -> model.chance(a, b));
            case 15:
                a = near(rooms);
                b = near(24);
                c = near(6) + 1;
                return compare("round(" + a + ", " + b + ", " + c + ")", () -> tried.round(a, b, c), () -> model.round(a, b, c));
            default:
                return lastCalls();
        }
    }

    private String lastCalls() {
        int a;
        int b;
        int c;
        switch (below(10)) {
            case 0:
                a = near(6);
                b = near(2);
                return compare("path(" + a + ", " + b + ")", () -> tried.path(a, b), () -> model.path(a, b));
            case 1:
                a = near(24);
                b = near(3) + 1;
                c = near(4) - 1;
                return compare("rests(" + a + ", " + b + ", " + c + ")", () -> tried.rests(a, b, c), () -> model.rests(a, b, c));
            case 2:
                a = near(24);
                b = below(20) == 0 ? near(24) : Math.min(23, a + below(4));
                return compare("fewest(" + a + ", " + b + ")", () -> tried.fewest(a, b), () -> model.fewest(a, b));
            case 3:
                a = near(lodgers);
                return compare("lender(" + a + ")", () -> tried.lender(a), () -> model.lender(a));
            case 4:
                a = near(40) + 1;
                b = near(3) + 1;
                return compare("kinds(" + a + ", " + b + ")", () -> tried.kinds(a, b), () -> model.kinds(a, b));
            case 5:
                a = near(40);
                b = near(3) + 1;
                return compare("word(" + a + ", " + b + ")", () -> tried.word(a, b), () -> model.word(a, b));
            case 6:
                a = near(256);
                b = near(20) + 1;
                c = near(3) + 1;
                return compare("mend(" + a + ", " + b + ", " + c + ")", () -> tried.mend(a, b, c), () -> model.mend(a, b, c));
            case 7:
                int[] n = {near(lodgers), near(rooms), near(24), near(11), near(2)};
                return compare("fire(" + n[0] + ", " + n[1] + ", " + n[2] + ", " + n[3] + ", " + n[4] + ")",
                        () -> tried.fire(n[0], n[1], n[2], n[3], n[4]), () -> model.fire(n[0], n[1], n[2], n[3], n[4]));
            case 8:
                return compare("image()", () -> nothing(tried::image), () -> nothing(model::image));
            default:
                return compare("restore()", () -> tried.restore() ? 1 : 0, () -> model.restore() ? 1 : 0);
        }
    }
}
