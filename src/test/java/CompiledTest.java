import java.io.PrintWriter;
import java.io.StringWriter;
import java.nio.file.Files;
import java.nio.file.Path;
import java.util.ArrayList;
import java.util.HashSet;
import java.util.List;
import java.util.Map;
import java.util.Set;
import java.util.TreeMap;
import java.util.TreeSet;
import java.util.regex.Matcher;
import java.util.regex.Pattern;
import java.util.spi.ToolProvider;
import java.util.stream.Stream;

/** The rules of LANGUAGE.md that the compiled class shows: what it calls, how deep, what it makes and where. */
public final class CompiledTest {
    /** Of all that rule 4 lists, what the class has use for. */
    private static final Set<String> LIBRARY = Set.of(
            "java/lang/Object.<init>", "java/lang/Integer.bitCount", "java/lang/Math.max", "java/lang/Math.min", "java/lang/Math.abs",
            "java/lang/String.length", "java/lang/String.charAt", "java/lang/String.indexOf", "java/lang/System.arraycopy");
    private static final Pattern CLASS = Pattern.compile("^(?:\\w+ )*class ([\\w$]+).*\\{$");
    private static final Pattern METHOD = Pattern.compile("^  (?:[\\w$.\\[\\]]+ )*([\\w$]+)\\(.*\\);$");
    private static final Pattern CALL = Pattern.compile("invoke\\w+ +#.*// (?:Interface)?Method ([^:]+):");
    private static final int DEEPEST = 8;

    /** By method: what it calls, as Class.method. */
    private static final Map<String, Set<String>> CALLS = new TreeMap<>();
    private static int wrong = 0;

    private static void must(boolean is, String what) {
        if (!is) {
            wrong++;
            System.out.println("CompiledTest: " + what);
        }
    }

    public static void main(String[] args) throws Exception {
        if (ToolProvider.findFirst("javap").isEmpty()) {
            System.out.println("CompiledTest: this java has no javap, nothing was looked at");
            return;
        }
        String name = "";
        String method = "";
        for (String line : disassembled().split("\n")) {
            Matcher c = CLASS.matcher(line);
            Matcher m = METHOD.matcher(line);
            if (c.matches()) {
                name = c.group(1);
            } else if (m.matches()) {
                method = name + "." + (m.group(1).equals(name) ? "<init>" : m.group(1));
                CALLS.putIfAbsent(method, new TreeSet<>());
            } else {
                lookAt(line, name, method);
            }
        }
        must(CALLS.size() > 150, "only " + CALLS.size() + " methods were found");
        int deepest = 0;
        for (String each : CALLS.keySet()) {
            deepest = Math.max(deepest, depthOf(each, new ArrayList<>()));
        }
        must(deepest > 4, "calls go only " + deepest + " deep");
        System.out.println("CompiledTest: " + CALLS.size() + " methods, calls that are no recursion go " + deepest + " deep, " + wrong + " wrong");
        if (wrong != 0) {
            System.exit(1);
        }
    }

    private static String disassembled() throws Exception {
        Path room = Path.of(NinetyPlayers.class.getProtectionDomain().getCodeSource().getLocation().toURI());
        List<String> asked = new ArrayList<>(List.of("-c", "-p"));
        try (Stream<Path> files = Files.list(room)) {
            files.filter(f -> f.getFileName().toString().matches("NinetyPlayers(\\$\\w+)?\\.class")).sorted().forEach(f -> asked.add(f.toString()));
        }
        StringWriter out = new StringWriter();
        PrintWriter writer = new PrintWriter(out);
        ToolProvider.findFirst("javap").orElseThrow().run(writer, writer, asked.toArray(new String[0]));
        return out.toString();
    }

    private static void lookAt(String line, String name, String method) {
        Matcher call = CALL.matcher(line);
        if (call.find()) {
            String called = call.group(1).replace("\"", "");
            called = called.contains(".") ? called : name + "." + called;
            must(called.startsWith("NinetyPlayers") || LIBRARY.contains(called), method + " calls " + called);
            CALLS.get(method).add(called);
        }
        boolean makes = line.matches(" +\\d+: (new|newarray|anewarray|multianewarray)\\b.*");
        must(!makes || method.endsWith(".<init>"), "rows are made in constructors: " + method + line);
        must(!line.matches(" +\\d+: (athrow|invokedynamic|monitorenter|checkcast)\\b.*"), method + " has" + line);
        must(!line.contains("Exception table"), method + " catches");
    }

    /** How many methods stand open at the most, those that may call themselves again not counted. */
    private static int depthOf(String method, List<String> open) {
        int deepest = 0;
        open.add(method);
        for (String called : CALLS.getOrDefault(method, Set.of())) {
            if (!open.contains(called) && CALLS.containsKey(called)) {
                deepest = Math.max(deepest, depthOf(called, open));
            }
        }
        long plain = open.stream().filter(each -> !callsItselfAgain(each)).count();
        must(plain <= DEEPEST, "calls go " + plain + " deep: " + open);
        open.remove(open.size() - 1);
        return Math.max(deepest, (int) plain);
    }

    private static boolean callsItselfAgain(String method) {
        Set<String> reached = new HashSet<>();
        List<String> coming = new ArrayList<>(CALLS.get(method));
        while (!coming.isEmpty()) {
            String next = coming.remove(coming.size() - 1);
            if (reached.add(next)) {
                coming.addAll(CALLS.getOrDefault(next, Set.of()));
            }
        }
        return reached.contains(method);
    }
}
