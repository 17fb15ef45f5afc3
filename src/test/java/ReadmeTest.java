import java.io.IOException;
import java.lang.reflect.Method;
import java.lang.reflect.Modifier;
import java.net.URL;
import java.net.URLClassLoader;
import java.nio.file.Files;
import java.nio.file.Path;
import java.util.ArrayList;
import java.util.List;
import java.util.regex.Matcher;
import java.util.regex.Pattern;
import javax.tools.ToolProvider;

/** README.md's code, compiled and run: each call has the answer that is written behind it, and none is left out. */
public final class ReadmeTest {
    private static final Pattern BLOCK = Pattern.compile("```java\n(.*?)```", Pattern.DOTALL);
    private static final Pattern ANSWERED = Pattern.compile("([^;\"]*(?:\"[^\"]*\"[^;\"]*)*); // (-?\\d+|true|false|\\w+Exception)\\b.*");

    private static int wrong = 0;
    private static int answers = 0;

    public static void main(String[] args) throws Exception {
        String readme = Files.readString(Path.of(System.getProperty("readme")));
        List<String> blocks = new ArrayList<>();
        Matcher block = BLOCK.matcher(readme);
        while (block.find()) {
            blocks.add(block.group(1));
        }
        for (Method method : ShoeHouse.class.getDeclaredMethods()) {
            String call = "house." + method.getName() + "(";
            if (Modifier.isPublic(method.getModifiers()) && !String.join("", blocks).contains(call)) {
                complain("README.md never calls " + method.getName());
            }
        }
        run(program(blocks));
        if (answers < 34) {
            complain("README.md tells " + answers + " answers alone");
        }
        if (wrong > 0) {
            System.exit(1);
        }
    }

    private static void complain(String text) {
        wrong++;
        System.out.println(text);
    }

    public interface Call {
        Object answer();
    }

    public static void due(String call, String want, Call made) {
        answers++;
        String got;
        try {
            got = String.valueOf(made.answer());
        } catch (RuntimeException e) {
            got = e.getClass().getSimpleName();
        }
        if (!got.equals(want)) {
            complain("README.md: " + call + " answered " + got + ", it says " + want);
        }
    }

    /** Blocks that begin with a method's head are methods, all others what is done. */
    private static String program(List<String> blocks) {
        StringBuilder methods = new StringBuilder();
        StringBuilder body = new StringBuilder();
        for (String block : blocks) {
            if (block.startsWith("static ")) {
                methods.append(block);
            } else {
                body.append(compared(block));
            }
        }
        return "public class Example {\n" + methods + "public static void main(String[] args) {\n" + body + "}\n}\n";
    }

    private static String compared(String block) {
        StringBuilder body = new StringBuilder();
        String[] lines = block.replaceAll("\n\\s+\\+ ", " + ").split("\n");
        for (String line : lines) {
            Matcher call = ANSWERED.matcher(line);
            if (call.matches()) {
                String shown = call.group(1).replace("\"", "'");
                body.append("ReadmeTest.due(\"").append(shown).append("\", \"").append(call.group(2)).append("\", () -> ")
                        .append(call.group(1)).append(");\n");
            } else {
                body.append(line).append('\n');
            }
        }
        return body.toString();
    }

    private static void run(String program) throws Exception {
        Path place = Files.createTempDirectory("readme");
        Path source = place.resolve("Example.java");
        try {
            Files.writeString(source, program);
            String known = System.getProperty("java.class.path");
            int failed = ToolProvider.getSystemJavaCompiler().run(null, null, null, "-cp", known, source.toString());
            if (failed != 0) {
                complain("README.md's code does not compile:\n" + program);
                return;
            }
            try (URLClassLoader loader = new URLClassLoader(new URL[] {place.toUri().toURL()})) {
                loader.loadClass("Example").getMethod("main", String[].class).invoke(null, (Object) new String[0]);
            }
        } finally {
            clear(place);
        }
    }

    private static void clear(Path place) throws IOException {
        for (String name : new String[] {"Example.java", "Example.class", ""}) {
            Files.deleteIfExists(place.resolve(name));
        }
    }
}
