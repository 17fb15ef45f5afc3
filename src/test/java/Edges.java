import java.io.IOException;
import java.nio.charset.StandardCharsets;
import java.nio.file.Files;
import java.nio.file.Path;
import java.util.ArrayList;
import java.util.List;
import java.util.NoSuchElementException;

/** What tests of boundary cases share: each names a promise and the sentence that it holds to. */
abstract class Edges {
    private static final class Wrong extends RuntimeException {
        private static final long serialVersionUID = 1L;

        Wrong(String text) {
            super(text);
        }
    }

    private record Quote(int promise, String sentence) { }

    private static final List<Quote> QUOTES = new ArrayList<>();
    private static int wrong = 0;

    /** One test of one sentence; the first answer that is not due ends it. */
    static void edge(int promise, String sentence, Runnable test) {
        QUOTES.add(new Quote(promise, sentence));
        String name = "promise " + promise + ", '" + sentence + "': ";
        try {
            test.run();
        } catch (Wrong e) {
            complain(name + e.getMessage() + lineOf(e));
        } catch (RuntimeException e) {
            complain(name + "throws " + e + lineOf(e));
        }
    }

    private static void complain(String text) {
        wrong++;
        System.out.println(text);
    }

    private static String lineOf(RuntimeException e) {
        for (StackTraceElement at : e.getStackTrace()) {
            if (at.getClassName().startsWith("EdgesOf")) {
                return " (" + at.getFileName() + ":" + at.getLineNumber() + ")";
            }
        }
        return "";
    }

    static void due(long want, long got) {
        if (want != got) {
            throw new Wrong("due is " + want + ", it answered " + got);
        }
    }

    static void dueAll(String want, String got) {
        if (!want.equals(got)) {
            throw new Wrong("due is " + want + ", it is " + got);
        }
    }

    static void noElement(Runnable call) {
        dueThrow(NoSuchElementException.class, call);
    }

    static void illegal(Runnable call) {
        dueThrow(IllegalArgumentException.class, call);
    }

    private static void dueThrow(Class<?> want, Runnable call) {
        Class<?> got = null;
        try {
            call.run();
        } catch (RuntimeException e) {
            got = e.getClass();
        }
        if (got != want) {
            throw new Wrong("due is " + want.getSimpleName() + ", it " + (got == null ? "answered" : "threw " + got));
        }
    }

    static void restores(boolean want, ShoeHouse h) {
        due(want ? 1 : 0, h.restore() ? 1 : 0);
    }

    static void fault(int code, int place, String text) {
        ShoeHouse h = new ShoeHouse();
        due(code, Bench.tell(h, text));
        due(place, h.fault());
    }

    static void isHouse(String text) {
        fault(0, ShoeHouse.NONE, text);
    }

    /** What can be asked of a house without changing it, but the tape and the fault, by some 150 calls. */
    static String stateOf(ShoeHouse h) {
        StringBuilder state = new StringBuilder();
        for (int what : new int[] {0, 1, 2, 3, 4, 5, 6, 9, 10, 20, 21, 22, 23}) {
            state.append(h.count(what)).append(' ');
        }
        state.append("cases ").append(h.cases());
        state.append(" sure ").append(h.sure(0)).append(' ').append(h.sure(1)).append(' ').append(h.sure(2));
        for (int room = 0; room < h.count(0); room++) {
            state.append(" room ").append(h.room(room, 0)).append(' ').append(h.room(room, 1));
            state.append(' ').append(h.theft(room, 0)).append(' ').append(h.theft(room, 1));
        }
        for (int lodger = 0; lodger < h.count(1); lodger++) {
            state.append(" lodger ").append(h.lodger(lodger, 0)).append(' ').append(h.lodger(lodger, 1));
            state.append(' ').append(h.lodger(lodger, 2)).append(" lender ").append(lenderOf(h, lodger));
            for (int hour : new int[] {0, 5, 23}) {
                state.append(" does ").append(h.does(lodger, hour)).append(" of ").append(h.may(lodger, hour, -1));
            }
        }
        return state.append(" path ").append(pathOf(h)).toString();
    }

    private static String lenderOf(ShoeHouse h, int lodger) {
        try {
            return String.valueOf(h.lender(lodger));
        } catch (NoSuchElementException e) {
            return "none";
        }
    }

    static String pathOf(ShoeHouse h) {
        StringBuilder path = new StringBuilder();
        try {
            for (int i = 0; i < 7; i++) {
                path.append(h.path(i, 0)).append(h.path(i, 1) == 1 ? "* " : " ");
            }
        } catch (NoSuchElementException e) {
            return path.toString().trim();
        }
        return path.append("and on").toString();
    }

    /** Compares the quotes with the document, and looks for sentences that no test names. */
    static void end(String place) throws IOException {
        Path path = Path.of(place);
        if (Files.exists(path)) {
            compareWith(Files.readString(path, StandardCharsets.UTF_8));
        } else {
            System.out.println("no document at " + place + ": the quotes are not compared");
        }
        System.out.println(QUOTES.size() + " boundary cases");
        if (wrong > 0) {
            System.exit(1);
        }
    }

    private static void compareWith(String document) {
        String ahead = section(document, "# ShoeHouse", "## Promise 1:");
        String terms = section(document, "## Terms", "The constants:");
        for (String sentence : sentences(terms)) {
            if (QUOTES.stream().noneMatch(q -> sentence.contains(q.sentence))) {
                complain("no test names this sentence of the terms: " + sentence);
            }
        }
        for (int number = 1; number <= 35; number++) {
            String promise = section(document, "## Promise " + number + ":", "## ");
            for (String sentence : sentences(promise.substring(promise.lastIndexOf("`: ") + 3))) {
                int n = number;
                if (QUOTES.stream().noneMatch(q -> q.promise == n && sentence.contains(q.sentence))) {
                    complain("no test names this sentence of promise " + n + ": " + sentence);
                }
            }
            for (Quote quote : QUOTES) {
                if (quote.promise == number && !(promise + " " + ahead).contains(quote.sentence)) {
                    complain("promise " + number + " and what stands ahead have no such words: " + quote.sentence);
                }
            }
        }
    }

    private static String section(String document, String head, String next) {
        int from = document.indexOf(head);
        int to = from < 0 ? -1 : document.indexOf(next, from + head.length());
        return from < 0 || to < 0 ? "" : document.substring(from + head.length(), to).replaceAll("\\s+", " ").trim();
    }

    private static List<String> sentences(String text) {
        List<String> found = new ArrayList<>();
        for (String one : text.replace("```text ", "").replace("``` ", "").replace("```", "").split("(?<=[^.]\\.) ")) {
            if (!one.isBlank() && !one.startsWith("====")) {
                found.add(one.trim());
            }
        }
        return found;
    }
}
