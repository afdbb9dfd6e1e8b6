import java.io.ByteArrayOutputStream;
import java.io.IOException;
import java.io.PrintStream;
import java.lang.reflect.Method;
import java.lang.reflect.Modifier;
import java.net.URL;
import java.net.URLClassLoader;
import java.nio.charset.StandardCharsets;
import java.nio.file.Files;
import java.nio.file.Path;
import java.util.regex.Matcher;
import java.util.regex.Pattern;
import javax.tools.JavaCompiler;
import javax.tools.ToolProvider;

/** README.md: that its example prints what is said there, its lines of a text are taken, and no method is forgotten. */
public final class ReadmeTest {
    private static final Tally TALLY = new Tally("ReadmeTest");

    public static void main(String[] args) throws Exception {
        String readme = Files.readString(Path.of("README.md"));
        example(readme);
        linesOfAText(readme);
        methods(readme);
        TALLY.end();
    }

    private static String block(String readme, String kind) {
        Matcher block = Pattern.compile("```" + kind + "\n(.*?)\n```", Pattern.DOTALL).matcher(readme);
        return block.find() ? block.group(1) : "";
    }

    private static void example(String readme) throws Exception {
        JavaCompiler compiler = ToolProvider.getSystemJavaCompiler();
        if (compiler == null) {
            System.out.println("ReadmeTest: this java has no compiler, the example was not run");
            return;
        }
        Path room = Files.createTempDirectory("readme");
        try {
            Path source = room.resolve("Example.java");
            Files.writeString(source, block(readme, "java") + "\n");
            String path = System.getProperty("java.class.path");
            int compiled = compiler.run(null, System.out, System.out, "-cp", path, "-d", room.toString(), source.toString());
            TALLY.due("An example", "javac Example.java", compiled, 0);
            if (compiled == 0) {
                TALLY.same("An example", "java Example", printedBy(room), block(readme, "text"));
            }
        } finally {
            Files.deleteIfExists(room.resolve("Example.java"));
            Files.deleteIfExists(room.resolve("Example.class"));
            Files.deleteIfExists(room);
        }
    }

    private static String printedBy(Path room) throws Exception {
        PrintStream before = System.out;
        ByteArrayOutputStream printed = new ByteArrayOutputStream();
        try (URLClassLoader loader = new URLClassLoader(new URL[] {room.toUri().toURL()})) {
            System.setOut(new PrintStream(printed, true, StandardCharsets.UTF_8));
            loader.loadClass("Example").getMethod("main", String[].class).invoke(null, (Object) new String[0]);
        } finally {
            System.setOut(before);
        }
        return printed.toString(StandardCharsets.UTF_8).strip();
    }

    /** The first column of the table of lines, all told as one text. */
    private static void linesOfAText(String readme) throws IOException {
        StringBuilder text = new StringBuilder();
        for (String row : readme.split("\n")) {
            Matcher line = Pattern.compile("`([a-z][^`]*;)`").matcher(row.startsWith("| `") ? row.split("\\|")[1] : "");
            while (line.find()) {
                text.append(line.group(1)).append('\n');
            }
        }
        NinetyPlayers x = new NinetyPlayers();
        TALLY.due("How a text is told", "score() of '" + text + "'", Tally.tell(x, text.toString()), 1);
        int[] due = {1, 3, 8, 12, 5, 20, 2};
        for (int what = 0; what < due.length; what++) {
            TALLY.due("How a text is told", "about(" + what + ")", x.about(what), due[what]);
        }
        TALLY.due("How a text is told", "note(0, 6)", x.note(0, 6), 21);
    }

    private static void methods(String readme) {
        for (Method method : NinetyPlayers.class.getDeclaredMethods()) {
            if (Modifier.isPublic(method.getModifiers())) {
                TALLY.due("How to use it", method.getName(), readme.contains("`" + method.getName() + "("), true);
            }
        }
    }
}
