import java.io.IOException;
import java.nio.file.Files;
import java.nio.file.Path;

/** What the tests of edges share: the document's sentence that is looked at, and the answers that are due by it. */
final class Due {
    static final int BAD = -1, NO = -2, FULL = -3, NONE = -4;
    static final int LOW = Integer.MIN_VALUE, HIGH = Integer.MAX_VALUE;
    static final int ALL_ENDS = 0x7FFC0;
    static final Path DOCUMENT = Path.of("../shared/DOC.md");

    private static String document = null;
    private static String sentence = "no sentence";
    private static int sentences = 0;
    private static int checked = 0;
    private static int checkedBefore = 0;
    private static int wrong = 0;

    private Due() {
    }

    /** One call with one number told. */
    interface Call {
        int with(int v);
    }

    static void fail(String what) {
        wrong++;
        System.out.println(sentence + ": " + what);
    }

    static String document() {
        if (document == null) {
            try {
                document = plain(Files.readString(DOCUMENT));
            } catch (IOException notThere) {
                document = "";
                fail("there is no " + DOCUMENT);
            }
        }
        return document;
    }

    /** One gap for several, so that a sentence may be told in other lines than the document's. */
    private static String plain(String text) {
        return text.replaceAll("\\s+", " ");
    }

    /** What is checked from here on is due by these words, which must stand in the document. */
    static void sentence(int promise, String words) {
        endOfSentence();
        sentence = "promise " + promise + ", \"" + words + "\"";
        sentences++;
        if (!document().contains(plain(words))) fail("these words are not in the document");
    }

    private static void endOfSentence() {
        if (sentences > 0 && checked == checkedBefore) fail("nothing was checked");
        checkedBefore = checked;
    }

    static void due(String call, int got, int want) {
        checked++;
        if (got != want) fail(call + " answered " + got + ", due is " + want);
    }

    /** The same answer with each of these numbers. */
    static void each(String call, int want, Call one, int... numbers) {
        for (int v : numbers) due(call + " with " + v, one.with(v), want);
    }

    static void end() {
        endOfSentence();
        System.out.println(sentences + " sentences, " + checked + " answers checked, " + wrong + " wrong");
        if (wrong != 0) System.exit(1);
    }

    // ---- names and texts

    static int name(char letter) {
        return letter - 'a';
    }

    static char letter(int name) {
        return (char) ('a' + name);
    }

    static int bits(String letters) {
        int bits = 0;
        for (char letter : letters.toCharArray()) bits |= 1 << name(letter);
        return bits;
    }

    static void put(WishToChip x, int view, String text) {
        for (int from = 0; from < text.length(); from += 8) {
            int to = Math.min(from + 8, text.length());
            long v = 0;
            for (int k = from; k < to; k++) v = v << 8 | text.charAt(k) & 255;
            x.write(view, to - from, v);
        }
    }

    static WishToChip told(int view, String text) {
        WishToChip x = new WishToChip();
        put(x, view, text);
        return x;
    }

    static void retell(WishToChip x, int view, String text) {
        x.clear(view);
        put(x, view, text);
    }

    static void rebuild(WishToChip x, int view, String text) {
        retell(x, view, text);
        int lines = text.length() - text.replace(";", "").length();
        int got = x.build(view);
        if (got != lines) fail("build of " + text + " answered " + got + ", due is " + lines);
    }

    static WishToChip built(String wish, String net) {
        WishToChip x = new WishToChip();
        rebuild(x, 0, wish);
        rebuild(x, 1, net);
        return x;
    }

    static WishToChip blocks(int many, int... nets) {
        WishToChip x = new WishToChip();
        for (int k = 0; k < many; k++) x.block();
        for (int net : nets) x.net(net);
        return x;
    }

    /** Where a BLOCK lies: it goes to a PLACE that is free or its own, and back. */
    static int placeOf(WishToChip x, int block) {
        for (int place = 0; place < 8; place++) {
            int was = x.place(block, place);
            if (was != NO) {
                if (was >= 0) x.place(block, was);
                return was;
            }
        }
        return NO;
    }
}
