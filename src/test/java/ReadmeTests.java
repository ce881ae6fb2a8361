import java.io.IOException;
import java.lang.reflect.Method;
import java.lang.reflect.Modifier;
import java.net.URL;
import java.net.URLClassLoader;
import java.nio.file.Files;
import java.nio.file.Path;
import java.util.Comparator;
import java.util.List;
import java.util.Set;
import java.util.TreeSet;
import java.util.regex.Matcher;
import java.util.regex.Pattern;
import java.util.stream.Stream;
import javax.tools.ToolProvider;

/**
 * The calls that README.md shows, in its order: each answers what the remark behind it says. The page's own lines are
 * compiled and run, so what it shows is what a reader may copy.
 */
public final class ReadmeTests {
    private static final Path README = Path.of("README.md");
    private static final Pattern BLOCK = Pattern.compile("(?m)^```java\n(.*?)^```", Pattern.DOTALL);
    private static final Pattern MAKING = Pattern.compile("WishToChip \\w+ = new WishToChip\\(\\);");
    private static final Pattern CALL = Pattern.compile("((?:\\w+\\.)?(\\w+)\\(.*\\));\\s*// (-?\\d+|BAD|NO|FULL|NONE): (.*)");
    private static final Pattern BYTES = Pattern.compile("\\w+\\.write\\(\\w+, (\\d), 0x([0-9A-F]+)L\\)");
    private static final List<String> REFUSED = List.of("BAD", "NO", "FULL", "NONE", "-100", "-10000", "-10001");

    private static final Set<String> SHOWN = new TreeSet<>();
    private static final Set<String> ANSWERS = new TreeSet<>();
    private static int checked = 0;
    private static int wrong = 0;

    private static void must(boolean holds, String what) {
        if (!holds) {
            wrong++;
            System.out.println("not so: " + what);
        }
    }

    /** Public, because the page's lines are loaded beside this class and call it. */
    public static void due(String call, int got, int want) {
        checked++;
        must(got == want, "README.md: " + call + " answers " + want + " (it answered " + got + ")");
    }

    public static void main(String[] args) throws Exception {
        String page = Files.readString(README);
        run(programOf(page));
        must(checked > 0 && checked == remarks(page), "each call with a remark was made: " + checked + " of " + remarks(page));
        for (Method m : WishToChip.class.getDeclaredMethods()) {
            if (Modifier.isPublic(m.getModifiers())) must(SHOWN.contains(m.getName()), "README.md shows a call of " + m.getName());
        }
        for (String answer : REFUSED) must(ANSWERS.contains(answer), "README.md shows a call that answers " + answer);
        testsAreNamed(page);
        System.out.println(checked + " calls of README.md made, " + wrong + " wrong");
        if (wrong != 0) System.exit(1);
    }

    private static int remarks(String page) {
        int remarks = 0;
        Matcher blocks = BLOCK.matcher(page);
        while (blocks.find()) for (String line : blocks.group(1).split("\n")) if (line.contains("// ")) remarks++;
        return remarks;
    }

    // ---- from the page to a program

    private static String programOf(String page) {
        StringBuilder members = new StringBuilder();
        StringBuilder lines = new StringBuilder();
        Matcher blocks = BLOCK.matcher(page);
        while (blocks.find()) {
            String block = blocks.group(1);
            if (block.startsWith("static ")) members.append(block);
            else for (String line : block.split("\n")) lines.append(statementOf(line)).append('\n');
        }
        return "public final class ReadmeLines {\n" + members + "public static void run() {\n" + lines + "}\n}\n";
    }

    private static String statementOf(String line) {
        if (MAKING.matcher(line).matches()) return line;
        Matcher call = CALL.matcher(line);
        if (!call.matches()) {
            must(false, "README.md says what this answers: " + line);
            return "";
        }
        SHOWN.add(call.group(2));
        ANSWERS.add(call.group(3));
        bytesAsTold(call.group(1), call.group(4));
        String answer = call.group(3).matches("[A-Z]+") ? "WishToChip." + call.group(3) : call.group(3);
        String shown = call.group(1).replace("\\", "\\\\").replace("\"", "\\\"");
        return "ReadmeTests.due(\"" + shown + "\", " + call.group(1) + ", " + answer + ");";
    }

    /** Where a remark quotes the bytes of a number, the number has just these. */
    private static void bytesAsTold(String call, String remark) {
        Matcher bytes = BYTES.matcher(call);
        if (!bytes.matches()) return;
        StringBuilder hex = new StringBuilder();
        for (char sign : remark.replaceAll("^\"|\"$", "").toCharArray()) hex.append(String.format("%02X", (int) sign));
        must(hex.toString().equals(bytes.group(2)), call + " tells " + remark);
        must(hex.length() == 2 * Integer.parseInt(bytes.group(1)), call + " tells as many bytes as it says");
    }

    private static void run(String program) throws Exception {
        Path folder = Files.createTempDirectory("readme");
        try {
            Path file = Files.writeString(folder.resolve("ReadmeLines.java"), program);
            String[] options = {"-cp", System.getProperty("java.class.path"), "-d", folder.toString(), file.toString()};
            boolean isCompiled = ToolProvider.getSystemJavaCompiler().run(null, System.out, System.out, options) == 0;
            must(isCompiled, "README.md's lines can be compiled");
            if (!isCompiled) return;
            try (URLClassLoader loader = new URLClassLoader(new URL[] {folder.toUri().toURL()}, ReadmeTests.class.getClassLoader())) {
                loader.loadClass("ReadmeLines").getMethod("run").invoke(null);
            }
        } finally {
            remove(folder);
        }
    }

    private static void remove(Path folder) throws IOException {
        try (Stream<Path> all = Files.walk(folder)) {
            for (Path one : all.sorted(Comparator.reverseOrder()).toList()) Files.delete(one);
        }
    }

    // ---- how to run the tests

    private static void testsAreNamed(String page) throws IOException {
        must(page.contains("\n.ci/run\n"), "README.md says how to run the tests");
        try (Stream<Path> files = Files.list(Path.of("src/test/java"))) {
            for (Path file : files.toList()) {
                String name = file.getFileName().toString().replace(".java", "");
                boolean isTest = Files.readString(file).contains("public static void main(");
                must(!isTest || page.contains(name), "README.md names the test " + name);
            }
        }
    }
}
