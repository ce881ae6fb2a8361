import java.lang.reflect.Array;
import java.lang.reflect.Constructor;
import java.lang.reflect.Field;
import java.lang.reflect.Method;
import java.lang.reflect.Modifier;
import java.nio.file.Files;
import java.nio.file.Path;
import java.util.ArrayList;
import java.util.Collections;
import java.util.IdentityHashMap;
import java.util.List;
import java.util.Set;
import java.util.TreeSet;
import java.util.regex.Matcher;
import java.util.regex.Pattern;

/** The rules of LANGUAGE.md as far as they can be seen in the class and in its source, and the document's face. */
public final class LanguageTests {
    private static final String[] FACE = {
        "write int int long", "clear int", "fault int", "ring int int", "build int", "line int int int", "state int",
        "step int int", "value int", "truth int int int", "ones int int", "start int", "states", "differ int", "touched",
        "gate int int int", "rule int int", "cover int int", "arrival int int int", "worst int int int", "block", "net int",
        "place int int", "wire int", "least int", "swap", "ends int", "fails int int", "finds int", "trial int", "noTrials",
        "fewest int", "see int int", "could int", "parts", "keep", "back", "count int"
    };

    private static int wrong = 0;

    private static void must(boolean holds, String what) {
        if (!holds) {
            wrong++;
            System.out.println("not so: " + what);
        }
    }

    public static void main(String[] args) throws Exception {
        face();
        nestedClasses();
        source(Files.readString(Path.of("src/main/java/WishToChip.java")));
        room();
        System.out.println(wrong == 0 ? "the face and the rules are kept" : wrong + " rules are not kept");
        if (wrong != 0) System.exit(1);
    }

    private static void face() throws Exception {
        Class<?> c = WishToChip.class;
        must(Modifier.isFinal(c.getModifiers()) && Modifier.isPublic(c.getModifiers()), "a public final class");
        Set<String> got = new TreeSet<>();
        for (Method m : c.getDeclaredMethods()) {
            if (Modifier.isPrivate(m.getModifiers())) continue;
            StringBuilder one = new StringBuilder(m.getName());
            for (Class<?> type : m.getParameterTypes()) one.append(' ').append(type.getName());
            must(m.getReturnType() == int.class && m.getModifiers() == Modifier.PUBLIC, "public int " + one);
            must(m.getExceptionTypes().length == 0, "nothing thrown by " + one);
            got.add(one.toString());
        }
        must(got.equals(new TreeSet<>(List.of(FACE))), "just these methods: " + got);
        Constructor<?>[] made = c.getDeclaredConstructors();
        must(made.length == 1 && made[0].getParameterCount() == 0 && Modifier.isPublic(made[0].getModifiers()), "one constructor");
        Set<String> constants = new TreeSet<>();
        for (Field f : c.getDeclaredFields()) {
            if (Modifier.isPrivate(f.getModifiers())) continue;
            must(f.getModifiers() == (Modifier.PUBLIC | Modifier.STATIC | Modifier.FINAL), "a constant: " + f);
            constants.add(f.getName() + f.getInt(null));
        }
        must(constants.equals(Set.of("BAD-1", "NO-2", "FULL-3", "NONE-4")), "just these constants: " + constants);
    }

    private static void nestedClasses() {
        Class<?>[] inside = WishToChip.class.getDeclaredClasses();
        must(inside.length <= 12, "some twelve classes");
        List<Class<?>> all = new ArrayList<>(List.of(inside));
        all.add(WishToChip.class);
        Set<String> publicNames = new TreeSet<>();
        for (String one : FACE) publicNames.add(one.split(" ")[0]);
        for (Class<?> c : all) {
            must(c == WishToChip.class || Modifier.isStatic(c.getModifiers()), "static: " + c);
            int fields = 0;
            for (Field f : c.getDeclaredFields()) {
                boolean isStatic = Modifier.isStatic(f.getModifiers());
                must(!isStatic || Modifier.isFinal(f.getModifiers()), "final: " + f);
                if (!isStatic) fields++;
            }
            must(fields <= 20, "at most twenty fields: " + c);
            for (Method m : c.getDeclaredMethods()) {
                must(m.getParameterCount() <= 7, "at most seven parameters: " + m);
                boolean isFace = c == WishToChip.class && Modifier.isPublic(m.getModifiers());
                must(isFace || !publicNames.contains(m.getName()), "a name of its own: " + m);
            }
        }
    }

    private static void source(String text) {
        String code = withoutComments(text).replaceAll("'.'", "' '");
        String[] never = {"throw", "throws", "try", "catch", "finally", "synchronized", "assert", "package", "volatile",
            "transient", "native", "protected", "goto", "Object", "Thread", "System\\.(?!arraycopy)\\w+", "\\w+Exact",
            "Random", "toString", "hashCode", "->", "::", "static\\s*\\{"};
        for (String word : never) {
            Matcher m = Pattern.compile("(?<!\\w)" + word + "(?!\\w)").matcher(code);
            must(!m.find(), "without " + word);
        }
        Matcher imports = Pattern.compile("import ([^;]+);").matcher(code);
        while (imports.find()) {
            must(List.of("java.util.Arrays", "java.util.ArrayList", "java.util.List").contains(imports.group(1)), imports.group());
        }
        for (char sign : text.toCharArray()) must(sign == '\n' || sign >= ' ' && sign <= '~', "plain signs only: " + (int) sign);
        methodLengths(text);
        loops(code);
    }

    private static void methodLengths(String text) {
        String[] lines = text.split("\n");
        Pattern head = Pattern.compile("^( {4}| {8})(public|private|static|final|int|void|long|boolean)\\b.*\\) \\{$");
        for (int i = 0; i < lines.length; i++) {
            Matcher m = head.matcher(lines[i]);
            if (m.find()) {
                int end = i;
                while (end < lines.length && !lines[end].equals(m.group(1) + "}")) end++;
                must(end - i < 60, "some sixty lines: " + lines[i].trim());
            }
        }
    }

    /** No loop but for, whose head has a test of a counter. */
    private static void loops(String code) {
        must(!Pattern.compile("\\b(while|do)\\b").matcher(code).find(), "only for, with the bound in its head");
        Matcher m = Pattern.compile("for \\(([^;]*);([^;]*);").matcher(code);
        while (m.find()) must(m.group(2).matches(".*(<|>=|<=).*"), "a counter against a bound: " + m.group());
    }

    /** What an object holds, and that no call makes it hold more: all rows are made with it. */
    private static void room() throws Exception {
        WishToChip x = new WishToChip();
        long[] first = held(x);
        must(first[0] < 200 && first[1] < 6000, "a small object: " + first[0] + " objects, " + first[1] + " fields and elements");
        String text = "g=ab&;h=gc|;p=hp^;";
        for (int view = 0; view < 2; view++) {
            for (char sign : text.toCharArray()) x.write(view, 1, sign);
            x.build(view);
        }
        for (int k = 0; k < 7; k++) x.block();
        for (int k = 0; k < 8; k++) x.net(3);
        for (int k = 0; k < 10; k++) x.trial(k);
        x.keep();
        x.keep();
        x.step(1, 0);
        x.least(-1);
        x.swap();
        x.parts();
        x.fewest(1);
        x.differ(6);
        x.touched();
        x.worst(0, 0, 1);
        x.cover(0, -1);
        long[] later = held(x);
        must(first[0] == later[0] && first[1] == later[1], "as small after calls: " + later[0] + " objects, " + later[1]);
        for (String line : withoutComments(Files.readString(Path.of("src/main/java/WishToChip.java"))).split("\n")) {
            must(!line.matches(".*\\bnew\\b.*") || line.matches(".*\\bfinal \\w+(\\[\\])? \\w+ = .*"), "made with the object: " + line.trim());
        }
    }

    private static String withoutComments(String text) {
        return text.replaceAll("(?s)/\\*.*?\\*/", "").replaceAll("//[^\n]*", "");
    }

    private static long[] held(Object root) throws Exception {
        long[] sums = new long[2];
        count(root, sums, Collections.newSetFromMap(new IdentityHashMap<>()));
        return sums;
    }

    private static void count(Object one, long[] sums, Set<Object> met) throws Exception {
        if (one == null || !met.add(one)) return;
        sums[0]++;
        if (one.getClass().isArray()) {
            sums[1] += Array.getLength(one);
            if (one instanceof Object[]) for (Object element : (Object[]) one) count(element, sums, met);
            return;
        }
        for (Field f : one.getClass().getDeclaredFields()) {
            if (Modifier.isStatic(f.getModifiers())) continue;
            sums[1]++;
            f.setAccessible(true);
            if (!f.getType().isPrimitive()) count(f.get(one), sums, met);
        }
    }
}
