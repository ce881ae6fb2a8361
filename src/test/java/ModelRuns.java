import java.lang.reflect.InvocationTargetException;
import java.lang.reflect.Method;
import java.lang.reflect.Modifier;
import java.util.ArrayList;
import java.util.Arrays;
import java.util.Collections;
import java.util.Comparator;
import java.util.List;
import java.util.Random;

/** Long runs of calls, the same ones each time, on the program and on the model: every answer must be the same. */
public final class ModelRuns {
    private static final int RUNS = 400;
    private static final int CALLS = 512;
    /** Each run keeps to one of these kinds of calls, so that what leans on many of them is reached; the first: to all. */
    private static final String[] KINDS = {
        "",
        " block net place wire least swap ",
        " fails finds ends trial fewest see could parts noTrials keep back ",
        " state step value truth ones start states differ touched keep back count ",
        " gate rule cover arrival worst line build "
    };

    private final Random dice;
    private final WishToChip program = new WishToChip();
    private final Model model = new Model();
    private final List<String> told = new ArrayList<>();
    private final String[] lastText = {"", ""};
    private final String kind;
    private boolean wrong = false;

    private ModelRuns(int run) {
        dice = new Random(run);
        kind = KINDS[run % KINDS.length];
    }

    public static void main(String[] args) throws Exception {
        int runs = args.length > 0 ? Integer.parseInt(args[0]) : RUNS;
        int first = args.length > 1 ? Integer.parseInt(args[1]) : 0;
        long calls = 0;
        for (int run = first; run < first + runs; run++) {
            ModelRuns one = new ModelRuns(run);
            one.go();
            calls += one.told.size();
            if (one.wrong) {
                System.out.println("run " + run + ":");
                for (String call : one.told) System.out.println("  " + call);
                System.exit(1);
            }
        }
        System.out.println(runs + " runs, " + calls + " calls answered as by the model");
    }

    private static Method[] faceMethods() {
        List<Method> face = new ArrayList<>();
        for (Method m : WishToChip.class.getDeclaredMethods()) if (Modifier.isPublic(m.getModifiers())) face.add(m);
        face.sort(Comparator.comparing(Method::getName));
        return face.toArray(new Method[0]);
    }

    private static final Method[] FACE = faceMethods();

    private void call(String name, Object... args) throws Exception {
        if (wrong || told.size() >= CALLS) return;
        for (Method m : FACE) {
            if (m.getName().equals(name)) {
                Object due = Model.class.getDeclaredMethod(name, m.getParameterTypes()).invoke(model, args);
                Object got;
                try {
                    got = m.invoke(program, args);
                } catch (InvocationTargetException thrown) {
                    got = thrown.getCause();
                }
                wrong = !due.equals(got);
                String list = Arrays.toString(args);
                told.add(name + "(" + list.substring(1, list.length() - 1) + ") = " + got + (wrong ? ", due is " + due : ""));
                return;
            }
        }
        throw new IllegalStateException(name);
    }

    private void go() throws Exception {
        tell(0, text());
        tell(1, dice.nextBoolean() ? text() : slip(lastText[0]));
        while (told.size() < CALLS && !wrong) {
            int choice = dice.nextInt(400);
            if (choice < 4) {
                tell(dice.nextInt(2), text());
            } else if (choice < 7) {
                tell(1, slip(lastText[0]));
            } else if (choice < 8) {
                tell(0, slip(lastText[0]));
            } else if (choice < 100 && kind.contains(" block ")) {
                call("place", dice.nextInt(7), dice.nextInt(8));
            } else {
                Method m = anyMethod();
                call(m.getName(), arguments(m));
            }
        }
    }

    private Method anyMethod() {
        while (true) {
            Method m = FACE[dice.nextInt(FACE.length)];
            boolean rare = m.getName().equals("clear") || m.getName().equals("noTrials") || m.getName().equals("back");
            boolean fits = kind.isEmpty() || kind.contains(" " + m.getName() + " ");
            if ((!rare || dice.nextInt(5) == 0) && (fits || dice.nextInt(40) == 0)) return m;
        }
    }

    private void tell(int view, String text) throws Exception {
        lastText[view] = text;
        call("clear", view);
        for (int at = 0; at < text.length(); ) {
            int n = Math.min(text.length() - at, dice.nextInt(6) == 0 ? 1 + dice.nextInt(8) : 8);
            long v = n == 8 ? 0 : dice.nextLong() << 8 * n;
            for (int k = 0; k < n; k++) v |= (long) text.charAt(at + k) << 8 * (n - 1 - k);
            call("write", view, n, v);
            at += n;
        }
        call("fault", view);
        call("ring", view, 0);
        call("ring", view, 1);
        if (view == 0 && dice.nextInt(2) == 0) call("touched");
        if (dice.nextInt(5) > 0) call("build", view);
    }

    // ---- texts

    private String text() {
        List<Integer> names = new ArrayList<>();
        for (int name = 6; name <= 18; name++) if (dice.nextInt(3) > 0) names.add(name);
        Collections.shuffle(names, dice);
        if (dice.nextBoolean()) names = names.subList(0, Math.min(names.size(), 1 + dice.nextInt(6)));
        String leaves = "abcdefpqrs".substring(0, 1 + dice.nextInt(10)) + (dice.nextInt(3) == 0 ? "01" : "");
        List<String> lines = new ArrayList<>();
        int room = dice.nextInt(5) == 0 ? 200 : 40 + dice.nextInt(160);
        int each = Math.max(1, room / Math.max(1, names.size()) - 3);
        for (int name : names) {
            String all = leaves;
            if (dice.nextInt(60) == 0) all += "ghijklmno";
            lines.add((char) ('a' + name) + "=" + line(all, 1 + dice.nextInt(each)) + ";");
            if (name < 15) leaves += dice.nextBoolean() ? "" + (char) ('a' + name) : "" + (char) ('a' + name) + (char) ('a' + name);
        }
        Collections.shuffle(lines, dice);
        String text = String.join("", lines);
        if (dice.nextInt(8) == 0) text = slip(text);
        return text.length() > 230 ? text.substring(0, 230) : text;
    }

    private String line(String leaves, int length) {
        StringBuilder line = new StringBuilder();
        int values = 0;
        boolean deep = dice.nextInt(4) == 0;
        while (line.length() < length || values != 1) {
            boolean closing = line.length() + values >= length;
            int choice = dice.nextInt(10);
            if (values == 0 || !closing && values < 10 && choice < (deep ? 8 : 5)) {
                line.append(leaves.charAt(dice.nextInt(leaves.length())));
                values++;
            } else if (values >= 3 && choice < 7) {
                line.append('?');
                values -= 2;
            } else if (values >= 2 && choice < 9) {
                line.append("&|^".charAt(dice.nextInt(3)));
                values--;
            } else if (line.length() < length) {
                line.append('~');
            }
        }
        return line.toString();
    }

    /** One byte otherwise, gone, or more: mostly so that the TEXT may still stand. */
    private String slip(String text) {
        if (text.isEmpty()) return dice.nextBoolean() ? "g" : "p=p~;";
        int at = dice.nextInt(text.length());
        char sign = text.charAt(at);
        String like = "&|^".indexOf(sign) >= 0 ? "&|^" : "01abcdef".indexOf(sign) >= 0 ? "01abcdefpqrs" : "" + sign;
        String head = text.substring(0, at);
        String tail = text.substring(at + 1);
        switch (dice.nextInt(12)) {
            case 0: return head;
            case 1: return head + tail;
            case 2: return head + "g=;~?&|^01astu \n\u00ff\u0000".charAt(dice.nextInt(18)) + tail;
            case 3: return head + sign + sign + tail;
            case 4: return head + "~" + sign + tail;
            default: return head + like.charAt(dice.nextInt(like.length())) + tail;
        }
    }

    // ---- arguments

    private Object[] arguments(Method m) {
        Object[] args = new Object[m.getParameterCount()];
        for (int k = 0; k < args.length; k++) args[k] = argument(m.getName(), k);
        if (m.getName().equals("write")) {
            args[2] = dice.nextInt(3) == 0 ? dice.nextLong() : (long) "abc01~&|^?;g=p=".charAt(dice.nextInt(15));
        } else if (m.getName().equals("rule") && dice.nextInt(6) > 0) {
            int what = dice.nextInt(5);
            args[0] = what;
            args[1] = what < 3 ? between(49, 301) : what == 3 ? between(-1, 10) : between(0, 501);
        } else if (m.getName().equals("see")) {
            int size = model.count(6);
            int i = size == 0 ? 0 : dice.nextInt(size);
            int fails = dice.nextInt(3) == 0 ? -1 : dice.nextInt(3) == 0 ? 0 : dice.nextInt(1 << 13) << 6;
            int likely = model.seenFor(i, dice.nextInt(38));
            args = new Object[] {dice.nextInt(12) == 0 ? between(-1, 10) : i,
                dice.nextInt(3) > 0 ? likely : dice.nextInt(6) == 0 ? dice.nextInt() : fails};
        }
        return args;
    }

    private int between(int least, int most) {
        return least + dice.nextInt(most - least + 1);
    }

    private int argument(String call, int k) {
        if (dice.nextInt(60) == 0) return dice.nextInt();
        switch (call + k) {
            case "write1": return between(0, 9);
            case "line2": return between(-1, 3);
            case "line1": case "differ0": return between(5, 19);
            case "cover1": return dice.nextInt(4) == 0 ? -1 : between(5, 19);
            case "state0": return between(-1, 256) & (dice.nextInt(3) > 0 ? 0xAA | 0x51 : -1);
            case "step0": case "step1": return dice.nextBoolean() ? between(-1, 64) : 1 << dice.nextInt(6);
            case "value0": case "truth1": case "ones1": case "arrival1": return between(-1, 19);
            case "truth2": case "fails1": case "trial0": return dice.nextInt(3) == 0 ? between(-1, 1024) : between(0, 127);
            case "start0": return between(-1, 16);
            case "gate0": return between(-1, 7);
            case "gate2": return dice.nextInt(3) == 0 ? between(0, 101) : between(1, 9);
            case "rule0": return between(-1, 5);
            case "arrival2": case "worst1": return dice.nextInt(9) == 0 ? between(-1, 3) : between(0, 2);
            case "worst2": return dice.nextInt(3) == 0 ? between(-3, 11) : between(-2, 3);
            case "net0": return dice.nextInt(6) == 0 ? between(-1, 130) : between(1, 127) & (1 << model.count(4)) - 1;
            case "place0": case "least0": return between(-2, model.count(4));
            case "wire0": return between(-2, model.count(5));
            case "place1": return between(-1, 8);
            case "ends0": return dice.nextInt(4) == 0 ? 0x7FFC0 : dice.nextInt(1 << 13) << 6;
            case "fails0": case "finds0": return between(-1, 38);
            case "could0": return dice.nextInt(3) == 0 ? -1 : between(-2, 12);
            case "count0": return between(-1, 9);
            default: return dice.nextInt(12) == 0 ? between(-1, 2) : between(0, 1);
        }
    }
}
