import java.io.IOException;
import java.lang.management.ManagementFactory;
import java.lang.reflect.Constructor;
import java.lang.reflect.Field;
import java.lang.reflect.Method;
import java.lang.reflect.Modifier;
import java.nio.file.Files;
import java.nio.file.Path;
import java.util.ArrayList;
import java.util.Arrays;
import java.util.List;
import java.util.Set;
import java.util.TreeSet;
import java.util.regex.Matcher;
import java.util.regex.Pattern;

/** The public face, the rules of the language that can be read off the class or its text, and the room that calls take. */
public final class SourceTest {
    private static final String[] FACE = {
        "int feed(int,int,int,int,int)", "int end(int)", "int score()", "int fault(int)", "int note(int,int)", "int part(int,int)",
        "int held(int,int)", "int sounds(int)", "int clash(int)", "int give(int,int)", "int shift(int,int)", "int louder(int,int)",
        "int last(int,int)", "int pedal(int)", "boolean undo()", "boolean redo()", "int clashes()", "int loss()", "int version(int)",
        "int child(int,int)", "int forbids(int,int)", "int giveway(int,int,int)", "int letin(int,int)", "int pedals(int)",
        "int spread(int)", "int leaps(int)", "int blur()", "int open(int)", "int lost()", "int gaps()", "int easier(int)",
        "int thickest()", "int busiest(int)", "int law(int)", "int dearest()", "int could(int)", "int lies(int)",
        "int heard(int,int,boolean)", "boolean untell(int)", "int later(int)", "int sets(int)", "int sure(int,int)", "int ask(int,int)",
        "int image(int)", "int back(int)", "int differ(int)", "int about(int)"};

    private static int wrong = 0;

    private static void must(boolean is, String what) {
        if (!is) {
            wrong++;
            System.out.println("SourceTest: " + what);
        }
    }

    public static void main(String[] args) throws IOException {
        face();
        faceOfTheDocument();
        classes();
        text();
        room();
        System.out.println(wrong == 0 ? "SourceTest: all is as the rules say" : "SourceTest: " + wrong + " wrong");
        if (wrong != 0) {
            System.exit(1);
        }
    }

    private static String signature(Method m) {
        List<String> parameters = new ArrayList<>();
        for (Class<?> p : m.getParameterTypes()) {
            parameters.add(p.getSimpleName());
        }
        return m.getReturnType().getSimpleName() + " " + m.getName() + "(" + String.join(",", parameters) + ")";
    }

    private static void face() {
        Class<?> c = NinetyPlayers.class;
        must(Modifier.isPublic(c.getModifiers()) && Modifier.isFinal(c.getModifiers()), "the class is not public and final");
        Set<String> found = new TreeSet<>();
        for (Method m : c.getDeclaredMethods()) {
            if (!Modifier.isPrivate(m.getModifiers())) {
                must(Modifier.isPublic(m.getModifiers()) && !Modifier.isStatic(m.getModifiers()), signature(m) + " is not in the face");
                found.add(signature(m));
            }
        }
        must(found.equals(new TreeSet<>(Arrays.asList(FACE))), "another face: " + found);
        for (Field f : c.getDeclaredFields()) {
            boolean constant = f.getName().equals("NONE") && f.getModifiers() == (Modifier.PUBLIC | Modifier.STATIC | Modifier.FINAL);
            must(constant || Modifier.isPrivate(f.getModifiers()), f.getName() + " can be seen");
        }
        Constructor<?>[] constructors = c.getDeclaredConstructors();
        must(constructors.length == 1 && constructors[0].getParameterCount() == 0, "other constructors");
    }

    /** If the document is there, its face is the one that is compared above. */
    private static void faceOfTheDocument() throws IOException {
        Path place = Path.of("../shared/DOC.md");
        if (!Files.exists(place)) {
            System.out.println("SourceTest: the document is not there, its face was not compared");
            return;
        }
        Matcher block = Pattern.compile("(?s)```java\n(.*?)```").matcher(Files.readString(place));
        must(block.find(), "the document has no face");
        Set<String> found = new TreeSet<>();
        Matcher method = Pattern.compile("public (int|boolean) (\\w+)\\(([^)]*)\\);").matcher(block.group(1));
        while (method.find()) {
            found.add(method.group(1) + " " + method.group(2) + "(" + method.group(3).replaceAll(" \\w+(?=,|$)", "").replace(" ", "") + ")");
        }
        must(found.equals(new TreeSet<>(Arrays.asList(FACE))), "the document has another face: " + found);
        must(block.group(1).contains("public static final int NONE = -1;"), "the document has no NONE");
        must(NinetyPlayers.NONE == -1, "NONE is " + NinetyPlayers.NONE);
    }

    private static void classes() {
        Set<String> publicNames = new TreeSet<>();
        for (String signature : FACE) {
            publicNames.add(signature.replaceAll("^\\w+ |\\(.*", ""));
        }
        List<Class<?>> all = new ArrayList<>(Arrays.asList(NinetyPlayers.class.getDeclaredClasses()));
        all.add(NinetyPlayers.class);
        must(all.size() <= 12, all.size() + " classes");
        for (Class<?> c : all) {
            boolean nested = c != NinetyPlayers.class;
            must(!nested || Modifier.isStatic(c.getModifiers()) && Modifier.isPrivate(c.getModifiers()), c + " is not private and static");
            for (Constructor<?> made : c.getDeclaredConstructors()) {
                must(made.getParameterCount() == 0, "a constructor hands something to " + made);
            }
            int fields = 0;
            for (Field f : c.getDeclaredFields()) {
                boolean isStatic = Modifier.isStatic(f.getModifiers());
                fields += isStatic ? 0 : 1;
                must(!isStatic || Modifier.isFinal(f.getModifiers()), f + " is static and not final");
            }
            must(fields <= 20, c + " has " + fields + " fields");
            for (Method m : c.getDeclaredMethods()) {
                must(m.getParameterCount() <= 7, m + " takes too many");
                boolean ofFace = !nested && Modifier.isPublic(m.getModifiers());
                must(ofFace || !publicNames.contains(m.getName()), m + " bears the name of a public one");
            }
        }
    }

    private static void text() throws IOException {
        String source = Files.readString(Path.of("src/main/java/NinetyPlayers.java"));
        for (int i = 0; i < source.length(); i++) {
            must(source.charAt(i) < 127, "a sign beyond 126 at " + i);
        }
        String code = source.replaceAll("(?s)/\\*.*?\\*/", "").replaceAll("//[^\n]*", "");
        String bare = code.replaceAll("\"[^\"]*\"", "\"\"");
        for (String word : new String[] {"throw", "throws", "try", "catch", "finally", "synchronized", "assert", "import", "package",
            "volatile", "System\\.(?!arraycopy)\\w+", "Object", "toString", "hashCode", "equals", "yield", "record", "Thread"}) {
            must(!Pattern.compile("\\b" + word + "\\b").matcher(bare).find(), "the text has " + word);
        }
        for (String sign : new String[] {"->", "::", "@", "\" +", "+ \""}) {
            must(!bare.contains(sign), "the text has " + sign);
        }
        Matcher made = Pattern.compile("\n[^\n]*\\bnew \\w+[^\n]*").matcher(bare);
        while (made.find()) {
            boolean row = made.group().matches("\\s*(private )?(final )?\\w+(\\[\\])? \\w+ = .*");
            must(row, "made in a call: " + made.group().trim());
        }
        Matcher method = Pattern.compile("\n(    |        )(?=\\S)[^\n;=]*\\) \\{\n.*?\n\\1\\}", Pattern.DOTALL).matcher(bare);
        int methods = 0;
        while (method.find()) {
            methods++;
            long lines = method.group().chars().filter(c -> c == '\n').count();
            must(lines <= 60, lines + " lines: " + method.group().trim().split("\n")[0]);
        }
        must(methods > 100, "only " + methods + " methods were found");
    }

    /** All calls of a run live in one room: after an object is made, calls make nothing more. */
    private static void room() {
        com.sun.management.ThreadMXBean threads = (com.sun.management.ThreadMXBean) ManagementFactory.getThreadMXBean();
        long id = Thread.currentThread().getId();
        callAll(new NinetyPlayers());
        NinetyPlayers x = new NinetyPlayers();
        long before = threads.getThreadAllocatedBytes(id);
        callAll(x);
        long taken = threads.getThreadAllocatedBytes(id) - before;
        must(taken < 2000, "calls took " + taken + " bytes");
    }

    private static void callAll(NinetyPlayers x) {
        // "part p tune;note a of p at 0 key 40 long 2;" and the same note again as b, then "missed loud+1;"
        x.feed(0x70617274, 0x20702074, 0x756e653b, 0x6e6f7465, 0x2061206f);
        x.feed(0x66207020, 0x61742030, 0x206b6579, 0x20343020, 0x6c6f6e67);
        x.feed(0x20323b6e, 0x6f746520, 0x62206f66, 0x20702061, 0x74203020);
        x.feed(0x6b657920, 0x3430206c, 0x6f6e6720, 0x323b6d69, 0x73736564);
        x.feed(0x206c6f75, 0x642b313b, 0x20202020, 0x20202020, 0x20202020);
        must(x.score() == 2, "the score was not taken");
        int sum = 0;
        for (int i = 0; i < 50; i++) {
            sum += x.give(i & 1, i % 3) + x.shift(0, i % 3 - 1) + x.louder(1, i % 9) + x.last(1, i % 12) + x.pedal(i % 12);
            sum += x.version(i & 1) + x.child(1, 5) + x.forbids(0, 1) + x.giveway(0, 1, 0) + x.letin(0, 0) + x.pedals(1);
            sum += x.clashes() + x.loss() + x.spread(1) + x.leaps(1) + x.blur() + x.open(0) + x.lost() + x.gaps() + x.easier(0);
            sum += x.thickest() + x.busiest(1) + x.law(3) + x.dearest() + x.could(1) + x.lies(0) + x.heard(0, i, false) + x.later(1);
            sum += x.sets(i) + x.sure(0, i) + x.ask(0, i) + x.image(i % 3) + x.differ(0) + x.note(0, 6) + x.part(0, 1);
            sum += x.held(0, 1) + x.sounds(1) + x.clash(1) + (x.undo() ? 1 : 0) + (x.redo() ? 1 : 0) + (x.untell(i) ? 1 : 0);
            sum += i % 10 == 0 ? x.back(0) : x.about(i % 16);
        }
        must(sum != 0, "nothing was answered");
    }
}
