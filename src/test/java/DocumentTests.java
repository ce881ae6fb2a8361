import java.io.IOException;
import java.lang.reflect.Constructor;
import java.lang.reflect.Field;
import java.lang.reflect.Method;
import java.lang.reflect.Modifier;
import java.nio.file.Files;
import java.nio.file.Path;
import java.util.ArrayList;
import java.util.Arrays;
import java.util.List;
import java.util.regex.Matcher;
import java.util.regex.Pattern;
import java.util.stream.Stream;

/**
 * The document's own words against the class and against its tests: the face as it is printed there, the heads of the
 * promises, the parts of the interface, and that each sentence is quoted by some test.
 */
public final class DocumentTests {
    private static final Path DOCUMENT = Path.of("../shared/DOC.md");
    private static final Path SOURCE = Path.of("src/main/java/WishToChip.java");
    private static final Path TESTS = Path.of("src/test/java");

    private static int wrong = 0;

    private static void must(boolean holds, String what) {
        if (!holds) {
            wrong++;
            System.out.println("not so: " + what);
        }
    }

    public static void main(String[] args) throws Exception {
        String document = Files.readString(DOCUMENT);
        String source = Files.readString(SOURCE);
        List<String> face = faceOf(document);
        must(face.size() == 38, "38 methods are printed: " + face.size());
        methodsAsPrinted(face, source);
        nothingElseIsPublic(face);
        constantsAsPrinted(document);
        headsOfPromises(document, face);
        partsOfTheInterface(document, source);
        everySentenceIsQuoted(document);
        System.out.println(wrong == 0 ? "the document's words are kept and quoted" : wrong + " of the document's words are not");
        if (wrong != 0) System.exit(1);
    }

    // ---- the face

    private static String printedFace(String document) {
        Matcher block = Pattern.compile("## The public face\\s+```java\n(.*?)```", Pattern.DOTALL).matcher(document);
        return block.find() ? block.group(1) : "";
    }

    /** "int write(int view, int n, long v)" and its like, as they come. */
    private static List<String> faceOf(String document) {
        List<String> face = new ArrayList<>();
        Matcher method = Pattern.compile("public (int \\w+\\([^)]*\\));").matcher(printedFace(document));
        while (method.find()) face.add(method.group(1));
        return face;
    }

    private static String nameOf(String head) {
        return head.substring("int ".length(), head.indexOf('('));
    }

    private static String typesOf(String head) {
        String told = head.substring(head.indexOf('(') + 1, head.indexOf(')'));
        return told.replaceAll("(\\w+) \\w+", "$1");
    }

    private static String typesOf(Method m) {
        return String.join(", ", Arrays.stream(m.getParameterTypes()).map(Class::getName).toList());
    }

    private static void methodsAsPrinted(List<String> face, String source) {
        must(Modifier.toString(WishToChip.class.getModifiers()).equals("public final"), "public final class WishToChip");
        int at = 0;
        for (String head : face) {
            int found = source.indexOf("    public " + head + " {", at);
            must(found >= 0, head + " stands in the class with these arguments, in the document's order");
            at = Math.max(at, found);
            boolean isThere = false;
            for (Method m : WishToChip.class.getDeclaredMethods()) {
                boolean isPublic = m.getModifiers() == Modifier.PUBLIC && m.getReturnType() == int.class;
                isThere |= isPublic && m.getName().equals(nameOf(head)) && typesOf(m).equals(typesOf(head));
            }
            must(isThere, "public " + head);
        }
    }

    private static void nothingElseIsPublic(List<String> face) {
        int methods = 0;
        for (Method m : WishToChip.class.getDeclaredMethods()) if (!Modifier.isPrivate(m.getModifiers())) methods++;
        must(methods == face.size(), "no other method can be seen: " + methods);
        Constructor<?>[] made = WishToChip.class.getDeclaredConstructors();
        must(made.length == 1 && made[0].getModifiers() == Modifier.PUBLIC && made[0].getParameterCount() == 0, "public WishToChip()");
        int fields = 0;
        for (Field f : WishToChip.class.getDeclaredFields()) if (!Modifier.isPrivate(f.getModifiers())) fields++;
        must(fields == 4, "no other constant can be seen: " + fields);
        must(WishToChip.class.getClasses().length == 0, "no class inside is public");
        must(WishToChip.class.getSuperclass() == Object.class && WishToChip.class.getInterfaces().length == 0, "it is nothing else");
    }

    private static void constantsAsPrinted(String document) throws Exception {
        Matcher line = Pattern.compile("public static final int ([^;]+);").matcher(printedFace(document));
        must(line.find(), "the constants are printed");
        String[] told = line.group(1).split(", ");
        must(told.length == 4, "four constants: " + told.length);
        for (String one : told) {
            String[] both = one.split(" = ");
            Field f = WishToChip.class.getField(both[0]);
            boolean isConstant = f.getType() == int.class && f.getModifiers() == (Modifier.PUBLIC | Modifier.STATIC | Modifier.FINAL);
            must(isConstant && f.getInt(null) == Integer.parseInt(both[1]), one);
        }
    }

    private static void headsOfPromises(String document, List<String> face) {
        Matcher head = Pattern.compile("## Promise (\\d+): ([^\n]+)\n\n`([^`]+)`:").matcher(document);
        int promises = 0;
        while (head.find()) {
            promises++;
            must(Integer.parseInt(head.group(1)) == promises, "promise " + promises + " has its number");
            if (promises == 1) {
                must(head.group(3).equals("WishToChip()"), "promise 1 is the constructor's");
            } else {
                String due = promises - 2 < face.size() ? face.get(promises - 2) : "none";
                must(head.group(3).equals(due) && nameOf(due).equals(head.group(2)), "promise " + promises + " is that of " + due);
            }
        }
        must(promises == 39, "39 promises: " + promises);
    }

    /** "Ahead of the calls .. the interface says": so does the class, and these calls come behind it and no others. */
    private static void partsOfTheInterface(String document, String source) {
        Matcher part = Pattern.compile("Ahead of the calls (.*) the interface says: (---- .*)\\.\n").matcher(document);
        int parts = 0;
        while (part.find()) {
            parts++;
            int from = source.indexOf("    // " + part.group(2) + "\n");
            must(from >= 0, "the class says " + part.group(2));
            if (from < 0) continue;
            String inside = source.substring(from, source.indexOf("    // ----", from + 1));
            List<String> names = new ArrayList<>();
            Matcher method = Pattern.compile("    public int (\\w+)\\(").matcher(inside);
            while (method.find()) names.add("`" + method.group(1) + "`");
            must(String.join(", ", names).equals(part.group(1)), part.group(2) + ": " + names);
        }
        must(parts == 5, "five parts: " + parts);
    }

    // ---- the sentences

    /** What no test can hold an object to: headings, marks, what was looked at above, and what is not promised. */
    private static String sentencesOf(String document) {
        return plain(document
                .replaceAll("(?s)## The public face.*?## Terms", "")
                .replaceAll("(?s)## Not promised.*", "")
                .replaceAll("(?m)^#.*$", "")
                .replaceAll("(?m)^```.*$", "")
                .replaceAll("(?m)^Ahead of the calls .*$", "")
                .replaceAll("======== \\d", ""));
    }

    private static String plain(String text) {
        return text.replaceAll("\\s+", " ");
    }

    /** The words behind each call of sentence( .. ), joined where they stand in several parts. */
    private static List<String> quotes() throws IOException {
        List<String> quotes = new ArrayList<>();
        Pattern call = Pattern.compile("sentence\\(\\d+,(?: \"[A-Z]+\",)?((?:\\s*\\+?\\s*\"[^\"]*\")+)\\)");
        try (Stream<Path> files = Files.list(TESTS)) {
            for (Path file : files.sorted().toList()) {
                Matcher m = call.matcher(Files.readString(file));
                while (m.find()) quotes.add(plain(m.group(1).replaceAll("\"\\s*\\+\\s*\"", "").trim().replace("\"", "")));
            }
        }
        return quotes;
    }

    private static void everySentenceIsQuoted(String document) throws IOException {
        String words = sentencesOf(document);
        boolean[] quoted = new boolean[words.length()];
        List<String> quotes = quotes();
        must(quotes.size() > 100, "more than a hundred quotes are found: " + quotes.size());
        for (String quote : quotes) {
            for (int at = words.indexOf(quote); at >= 0; at = words.indexOf(quote, at + 1)) {
                Arrays.fill(quoted, at, at + quote.length(), true);
            }
        }
        // the head of a promise is looked at above
        Matcher heads = Pattern.compile("`[^`]*`:").matcher(words);
        while (heads.find()) Arrays.fill(quoted, heads.start(), heads.end(), true);
        StringBuilder left = new StringBuilder();
        for (int at = 0; at <= words.length(); at++) {
            if (at < words.length() && !quoted[at]) {
                left.append(words.charAt(at));
            } else {
                must(!left.toString().matches(".*\\w.*"), "some test quotes: " + left);
                left.setLength(0);
            }
        }
    }
}
