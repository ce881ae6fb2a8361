import java.util.Arrays;
import java.util.Set;
import java.util.TreeSet;
import java.util.regex.Matcher;
import java.util.regex.Pattern;

/**
 * Every call that is refused (BAD, NO, FULL, NONE, and the numbers of worst and see in their place): its answer, and
 * that nothing has changed behind it: the object tells all just as its twin does that was not asked.
 */
public final class RefusedEdges {
    private static final int BAD = Due.BAD, NO = Due.NO, FULL = Due.FULL, NONE = Due.NONE;
    private static final int LOW = Due.LOW, HIGH = Due.HIGH, ALL_ENDS = Due.ALL_ENDS;
    private static final int[] NO_VIEWS = {-1, 2, 3, 256, LOW, HIGH};
    private static final int[] NO_NAMES = {-1, 19, 20, 32, LOW, HIGH};
    private static final int[] NO_LINES = {-2, 0, 5, 19, 20, 32, LOW, HIGH};
    private static final int[] NO_ROWS = {-1, 1024, 1025, LOW, HIGH};
    private static final int[] NO_CORNERS = {-1, 3, 4, LOW, HIGH};
    private static final String NOTHING = "nothing changes then";

    private interface Maker {
        WishToChip make();
    }

    private interface Call {
        int on(WishToChip x);
    }

    private interface NumberedCall {
        int on(WishToChip x, int v);
    }

    /** How things stand when a call comes. */
    private enum Things { NEW, MIDST, ALL_FULL, NOT_TO_BE_BUILT }

    private static final int[][][] TWINS = new int[Things.values().length][Whole.PARTS][];
    private static final Set<String> MET = new TreeSet<>();

    public static void main(String[] args) {
        badTexts();
        badSteps();
        badTruth();
        badTimes();
        badPlaces();
        badTrials();
        badAsThingsStand();
        noTexts();
        noValueAndBack();
        noPlace();
        fullTexts();
        fullRows();
        noneOfTexts();
        noneOfTimes();
        noneOfTrials();
        allThatTheDocumentNames();
        Due.end();
    }

    // ---- how things stand

    private static WishToChip make(Things things) {
        switch (things) {
            case NEW: return new WishToChip();
            case MIDST: return midst();
            case ALL_FULL: return allFull();
            default: return notToBeBuilt();
        }
    }

    /** Something of everything, none of it as it was at first, and room for more. */
    private static WishToChip midst() {
        WishToChip x = Due.built("o=a;s=o~;", "n=f;q=n;");
        x.start(2);
        x.keep();
        Due.rebuild(x, 0, "g=ab&;h=gc|~;p=hp^;q=pda?;");
        Due.rebuild(x, 1, "g=a~b~|~;h=gc|;i=gh^;p=hp^;r=ie&;");
        x.state(145);
        x.step(37, 8);
        x.step(11, 4);
        x.start(5);
        x.ends(Due.bits("ghipr"));
        x.gate(1, 0, 7);
        x.gate(5, 1, 9);
        x.rule(0, 150);
        x.rule(3, 2);
        x.rule(4, 33);
        for (int k = 0; k < 4; k++) x.block();
        for (int net : new int[] {3, 6, 13}) x.net(net);
        x.place(1, 6);
        x.place(3, 1);
        for (int row : new int[] {3, 64, 1023, 9}) x.trial(row);
        x.see(0, Due.bits("gi"));
        x.see(2, 0);
        Due.retell(x, 0, "g=ab|;p=g;q=r;");
        Due.put(x, 1, "j=");
        return x;
    }

    private static String filled(String lines) {
        return lines + "o=f" + "~".repeat(200 - lines.length() - 4) + ";";
    }

    private static WishToChip allFull() {
        WishToChip x = Due.built(filled("g=ab&;h=gc|;p=hp^;"), filled("g=ab|;i=gd^;q=iq&;"));
        x.keep();
        x.start(9);
        x.step(3, 0);
        x.keep();
        x.state(0x45);
        x.ends(Due.bits("giq"));
        for (int k = 0; k < 7; k++) x.block();
        for (int net : new int[] {65, 3, 6, 12, 24, 48, 96, 127}) x.net(net);
        for (int row = 0; row < 10; row++) x.trial(row * 113);
        x.see(9, Due.bits("q"));
        return x;
    }

    private static WishToChip notToBeBuilt() {
        WishToChip x = Due.built("g=a;p=g;", "h=b;q=h~;");
        x.state(0x16);
        x.keep();
        Due.retell(x, 0, "g=h;h=g~;");
        Due.retell(x, 1, "g=h;");
        for (int k = 0; k < 2; k++) x.block();
        x.net(3);
        x.place(0, 7);
        x.trial(1);
        return x;
    }

    // ---- refused, and nothing changed

    private static void sentence(int promise, String code, String words) {
        MET.add(promise + " " + code);
        Due.sentence(promise, words);
    }

    private static void unchanged(String call, Maker maker, int want, Call one) {
        for (int part = 0; part < Whole.PARTS; part++) {
            WishToChip asked = maker.make();
            Due.due(call, one.on(asked), want);
            compare(call, Whole.tell(asked, part), Whole.tell(maker.make(), part), part);
        }
    }

    private static void compare(String call, int[] asked, int[] twin, int part) {
        int at = Arrays.mismatch(asked, twin);
        Due.due(call + ", " + NOTHING + " (part " + part + " of all that is told)", at, -1);
    }

    /** Each of these numbers in each state of things; all of them on one object, which must stay like its twin. */
    private static void refused(String call, int want, NumberedCall one, int... numbers) {
        for (Things things : Things.values()) {
            for (int part = 0; part < Whole.PARTS; part++) {
                WishToChip asked = make(things);
                for (int v : numbers) Due.due(call + " with " + v + ", " + things, one.on(asked, v), want);
                int[][] twins = TWINS[things.ordinal()];
                if (twins[part] == null) twins[part] = Whole.tell(make(things), part);
                compare(call + ", " + things, Whole.tell(asked, part), twins[part], part);
            }
        }
    }

    private static void bad(String call, NumberedCall one, int... numbers) {
        refused(call, BAD, one, numbers);
    }

    // ---- BAD

    private static void badTexts() {
        sentence(2, "BAD", "n bytes (1 to 8) of v, the highest first, come behind THE TEXT of a VIEW: how long it is. BAD; FULL.");
        bad("write(v, 1, ..)", (x, v) -> x.write(v, 1, 97), NO_VIEWS);
        bad("write(0, v, ..)", (x, v) -> x.write(0, v, 0x673D613BL), 0, 9, 10, -1, -8, 64, LOW, HIGH);
        bad("write(1, v, ..)", (x, v) -> x.write(1, v, 0x673D613BL), 0, 9, 10, -1, -8, 64, LOW, HIGH);
        bad("write(v, v, ..)", (x, v) -> x.write(v, v, -1L), -1, 9, LOW, HIGH);
        sentence(3, "BAD", "THE TEXT of a VIEW is empty: how long it was. BAD.");
        bad("clear", WishToChip::clear, NO_VIEWS);
        sentence(4, "BAD", "`int fault(int view)`: FAULT. NONE; BAD.");
        bad("fault", WishToChip::fault, NO_VIEWS);
        sentence(5, "BAD", "RING (what = 0), LACK (1) of THE TEXT. NONE; BAD; NO: a FAULT.");
        bad("ring(v, 0)", (x, v) -> x.ring(v, 0), NO_VIEWS);
        bad("ring(v, 1)", (x, v) -> x.ring(v, 1), NO_VIEWS);
        bad("ring(0, v)", (x, v) -> x.ring(0, v), -1, 2, 3, LOW, HIGH);
        bad("ring(1, v)", (x, v) -> x.ring(1, v), -1, 2, 3, LOW, HIGH);
        sentence(6, "BAD", "BUILT: how many LINES (registers x again, if it is THE WISH). BAD; NO.");
        bad("build", WishToChip::build, NO_VIEWS);
        sentence(7, "BAD", "NONE: it has no LINE; BAD (names 6 to 18).");
        bad("line(v, 6, 0)", (x, v) -> x.line(v, 6, 0), NO_VIEWS);
        bad("line(0, v, 0)", (x, v) -> x.line(0, v, 0), NO_LINES);
        bad("line(1, v, 1)", (x, v) -> x.line(1, v, 1), NO_LINES);
        bad("line(0, v, 2)", (x, v) -> x.line(0, v, 2), NO_LINES);
        bad("line(0, -1, 0)", (x, v) -> x.line(0, -1, v), 0, 1, 2);
        bad("line(0, 6, v)", (x, v) -> x.line(0, 6, v), -1, 3, 4, LOW, HIGH);
        bad("line(0, 13, v), which has no LINE", (x, v) -> x.line(0, 13, v), -1, 3, 4, LOW, HIGH);
    }

    private static void badSteps() {
        sentence(8, "BAD", "Registers are so: two bits each, r from bit 2 r on (0, 1, 2 x): what they were, likewise. BAD.");
        bad("state", WishToChip::state, 3, 12, 48, 192, 255, 3 | 0x54, 0xC0 | 0x2A, 256, 257, -1, LOW, HIGH);
        sentence(9, "BAD", "A STEP by inputs (bits), those not known (bits) x: registers then, as state() tells. BAD.");
        bad("step(v, 0)", (x, v) -> x.step(v, 0), -1, 64, 65, 128, LOW, HIGH);
        bad("step(0, v)", (x, v) -> x.step(0, v), -1, 64, 65, 128, LOW, HIGH);
        bad("step(v, v)", (x, v) -> x.step(v, v), -1, 64);
        sentence(10, "BAD", "BAD; NO: there was none since THE WISH was BUILT.");
        bad("value", WishToChip::value, NO_NAMES);
        sentence(13, "BAD", "START becomes v: what it was. BAD.");
        bad("start", WishToChip::start, -1, 16, 17, 255, LOW, HIGH);
    }

    private static void badTruth() {
        sentence(11, "BAD", "THE VALUE of a name (a register: its NEXT) in a ROW by a VIEW. BAD.");
        bad("truth(v, 6, 0)", (x, v) -> x.truth(v, 6, 0), NO_VIEWS);
        bad("truth(0, v, 0)", (x, v) -> x.truth(0, v, 0), NO_NAMES);
        bad("truth(1, v, 1023)", (x, v) -> x.truth(1, v, 1023), NO_NAMES);
        bad("truth(0, 18, v)", (x, v) -> x.truth(0, 18, v), NO_ROWS);
        bad("truth(1, 0, v)", (x, v) -> x.truth(1, 0, v), NO_ROWS);
        sentence(12, "BAD", "In how many ROWS THE VALUE (NEXT) is 1. BAD.");
        bad("ones(v, 6)", (x, v) -> x.ones(v, 6), NO_VIEWS);
        bad("ones(0, v)", (x, v) -> x.ones(0, v), NO_NAMES);
        bad("ones(1, v)", (x, v) -> x.ones(1, v), NO_NAMES);
        sentence(15, "BAD", "DIFFER at a name (6 to 18): the ROW. NONE; BAD.");
        bad("differ", WishToChip::differ, NO_LINES);
        bad("differ", WishToChip::differ, -1, 1, 4);
    }

    private static void badTimes() {
        sentence(17, "BAD", "PRICE (what = 0), DELAY (1) of a KIND: what it was. BAD.");
        for (int kind = 0; kind <= 6; kind++) {
            int k = kind;
            bad("gate(" + k + ", 0, v)", (x, v) -> x.gate(k, 0, v), 0, 101, 102, -1, LOW, HIGH);
            bad("gate(" + k + ", 1, v)", (x, v) -> x.gate(k, 1, v), 0, 51, 52, 100, -1, LOW, HIGH);
            bad("gate(" + k + ", v, 1)", (x, v) -> x.gate(k, v, 1), -1, 2, 3, LOW, HIGH);
        }
        bad("gate(v, 0, 9)", (x, v) -> x.gate(v, 0, 9), -1, 7, 8, LOW, HIGH);
        bad("gate(v, 1, 9)", (x, v) -> x.gate(v, 1, 9), -1, 7, 8, LOW, HIGH);
        sentence(18, "BAD", "FACTOR of a CORNER (what 0 to 2), LOAD (3), CLOCK (4): what it was. BAD.");
        for (int corner = 0; corner <= 2; corner++) {
            int k = corner;
            bad("rule(" + k + ", v)", (x, v) -> x.rule(k, v), 49, 301, 0, 1, -1, 500, LOW, HIGH);
        }
        bad("rule(3, v)", (x, v) -> x.rule(3, v), -1, 10, 11, 100, LOW, HIGH);
        bad("rule(4, v)", (x, v) -> x.rule(4, v), 0, 501, 502, -1, LOW, HIGH);
        bad("rule(v, 50)", (x, v) -> x.rule(v, 50), -1, 5, 6, LOW, HIGH);
        bad("rule(v, 1)", (x, v) -> x.rule(v, 1), -1, 5, 6, LOW, HIGH);
        sentence(19, "BAD", "NONE: it has no LINE; BAD (names -1, 6 to 18).");
        bad("cover(v, -1)", (x, v) -> x.cover(v, -1), NO_VIEWS);
        bad("cover(v, 6)", (x, v) -> x.cover(v, 6), NO_VIEWS);
        bad("cover(0, v)", (x, v) -> x.cover(0, v), NO_LINES);
        bad("cover(1, v)", (x, v) -> x.cover(1, v), NO_LINES);
        sentence(20, "BAD", "ARRIVAL of a name (a register: of its LINE; without one 0) at a CORNER. BAD.");
        bad("arrival(v, 6, 0)", (x, v) -> x.arrival(v, 6, 0), NO_VIEWS);
        bad("arrival(0, v, 0)", (x, v) -> x.arrival(0, v, 0), NO_NAMES);
        bad("arrival(1, v, 2)", (x, v) -> x.arrival(1, v, 2), NO_NAMES);
        bad("arrival(0, 6, v)", (x, v) -> x.arrival(0, 6, v), NO_CORNERS);
        bad("arrival(1, 0, v)", (x, v) -> x.arrival(1, 0, v), NO_CORNERS);
        sentence(21, "BAD", "NONE; BAD answers -10001.");
        for (int i = -2; i <= 1; i++) {
            int k = i;
            refused("worst(v, 0, " + k + ")", -10001, (x, v) -> x.worst(v, 0, k), NO_VIEWS);
            refused("worst(0, v, " + k + ")", -10001, (x, v) -> x.worst(0, v, k), NO_CORNERS);
        }
        refused("worst(0, 0, v)", -10001, (x, v) -> x.worst(0, 0, v), -3, -4, LOW);
        refused("worst(1, 2, v)", -10001, (x, v) -> x.worst(1, 2, v), -3, -4, LOW);
    }

    private static void badPlaces() {
        sentence(23, "BAD", "A NET of BLOCKS (bits, two or more): how many. BAD; FULL.");
        bad("net of none or one", WishToChip::net, 0, 1, 2, 4, 8, 16, 32, 64);
        bad("net of what is no BLOCK", WishToChip::net, 128, 129, 131, 255, 256, -1, -2, LOW, HIGH);
        sentence(24, "BAD", "A BLOCK goes to a PLACE: where it was. BAD; NO: another one is there.");
        bad("place(v, 5)", (x, v) -> x.place(v, 5), -1, 7, 8, LOW, HIGH);
        bad("place(0, v)", (x, v) -> x.place(0, v), -1, 8, 9, LOW, HIGH);
        bad("place(v, v)", (x, v) -> x.place(v, v), -1, 8, LOW, HIGH);
        sentence(25, "BAD", "WIRE of a NET; net = -1: of all. BAD.");
        bad("wire", WishToChip::wire, -2, 8, 9, LOW, HIGH);
        sentence(26, "BAD", "LEAST: the WIRE (block = -1), the PLACE of a BLOCK by it. BAD.");
        bad("least", WishToChip::least, -2, 7, 8, LOW, HIGH);
    }

    private static void badTrials() {
        sentence(28, "BAD", "ENDS (bits 6 to 18 of names; others 0) become v: what they were. BAD.");
        bad("ends", WishToChip::ends, 1, 2, 4, 8, 16, 32, 63, 1 << 19, 1 << 20, 1 << 30, ALL_ENDS + 1, ALL_ENDS + 32,
                ALL_ENDS | 1 << 19, -1, LOW, LOW | 64, HIGH);
        sentence(29, "BAD", "FAILS of a ROW by a FAULT. BAD.");
        bad("fails(v, 0)", (x, v) -> x.fails(v, 0), -1, 38, 39, LOW, HIGH);
        bad("fails(0, v)", (x, v) -> x.fails(0, v), NO_ROWS);
        bad("fails(37, v)", (x, v) -> x.fails(37, v), NO_ROWS);
        sentence(30, "BAD", "The least ROW that FINDS a FAULT. NONE: it CAN'T be found; BAD.");
        bad("finds", WishToChip::finds, -1, 38, 39, LOW, HIGH);
        sentence(31, "BAD", "A TRIAL: how many. BAD; FULL.");
        bad("trial", WishToChip::trial, NO_ROWS);
        sentence(33, "BAD", "FAULTS that some TRIAL finds: how many (what = 0); THE FEWEST as bits (1). BAD.");
        bad("fewest", WishToChip::fewest, -1, 2, 3, LOW, HIGH);
        sentence(34, "BAD", "FAILS (bits 6 to 18; -1: nothing): what it was. BAD answers -100.");
        refused("see(v, 64)", -100, (x, v) -> x.see(v, 64), -1, 10, 11, LOW, HIGH);
        refused("see(v, -1)", -100, (x, v) -> x.see(v, -1), -1, 10, 11, LOW, HIGH);
        refused("see(0, v)", -100, (x, v) -> x.see(0, v), -2, -3, -64, 1, 2, 4, 8, 16, 32, 65, 1 << 19, ALL_ENDS + 1, LOW, HIGH);
        sentence(35, "BAD", "How many FAULTS COULD be (i = -1), the i-th by numbers (38: none fails). NONE; BAD.");
        bad("could", WishToChip::could, -2, -3, LOW);
        sentence(39, "BAD", "How many: 0 and 1 bytes of both TEXTS");
        bad("count", WishToChip::count, -1, 9, 10, LOW, HIGH);
    }

    /** Numbers that would be good ones, were there as many BLOCKS, NETS, TRIALS. */
    private static void badAsThingsStand() {
        for (int many = 0; many < 7; many++) {
            int n = many;
            Maker maker = () -> Due.blocks(n, n < 2 ? new int[0] : new int[] {3, (1 << n) - 1});
            sentence(23, "BAD", "BAD: a number is none that is told, there is no such thing.");
            unchanged("net with BLOCK " + n + " of " + n, maker, BAD, x -> x.net(1 | 1 << n | (n == 0 ? 2 : 0)));
            unchanged("net with all BLOCKS up to " + n + " of " + n, maker, BAD, x -> x.net((2 << n) - 1));
            sentence(24, "BAD", "BAD: a number is none that is told, there is no such thing.");
            unchanged("place(" + n + ", 7) of " + n, maker, BAD, x -> x.place(n, 7));
            unchanged("place(" + n + ", 0), where another one is", maker, BAD, x -> x.place(n, 0));
            sentence(26, "BAD", "BAD: a number is none that is told, there is no such thing.");
            unchanged("least(" + n + ") of " + n, maker, BAD, x -> x.least(n));
        }
        sentence(25, "BAD", "BAD: a number is none that is told, there is no such thing.");
        for (int many = 0; many < 8; many++) {
            int n = many;
            Maker maker = () -> Due.blocks(3, Arrays.copyOf(new int[] {3, 5, 6, 7, 3, 5, 6}, n));
            unchanged("wire(" + n + ") of " + n, maker, BAD, x -> x.wire(n));
        }
        sentence(34, "BAD", "BAD answers -100.");
        for (int many = 0; many < 10; many++) {
            int n = many;
            Maker maker = () -> withTrials(n);
            unchanged("see(" + n + ", 64) of " + n, maker, -100, x -> x.see(n, 64));
            unchanged("see(" + n + ", -1) of " + n, maker, -100, x -> x.see(n, -1));
        }
    }

    private static WishToChip withTrials(int many) {
        WishToChip x = Due.built("", "g=ab&;");
        for (int k = 0; k < many; k++) x.trial(k);
        return x;
    }

    // ---- NO

    private static void noTexts() {
        String[] faults = {"x", "g", "g=", "g=a", "g=;", "g=ab;", "g=&;", "g=a&;", "g=ab?;", "g=a;g=b;", "g=g;h", "g=h;;",
            "g=aaaaaaaaaaa", "g=a" + "~".repeat(197)};
        sentence(5, "NO", "NONE; BAD; NO: a FAULT.");
        for (String text : faults) {
            for (int k = 0; k < 4; k++) {
                int view = k & 1;
                int what = k >> 1;
                unchanged("ring of " + text, () -> retold(view, text), NO, x -> x.ring(view, what));
            }
        }
        sentence(6, "NO", "BUILT is a TEXT without FAULT, RING, LACK (an empty one is)");
        for (int k = 0; k < 2; k++) {
            int view = k;
            for (String text : faults) unchanged("build of " + text, () -> retold(view, text), NO, x -> x.build(view));
            unchanged("build of a RING", () -> retold(view, "o=n;n=o;"), NO, x -> x.build(view));
            unchanged("build of a RING of itself", () -> retold(view, "p=a;g=g;"), NO, x -> x.build(view));
            unchanged("build of a LACK", () -> retold(view, "g=a;p=o;"), NO, x -> x.build(view));
            unchanged("build of a LACK and a RING", () -> retold(view, "g=go&;"), NO, x -> x.build(view));
        }
        sentence(16, "NO", "TOUCHED names as bits, THE TEXT of VIEW 0 the late wish. NO: it may not be BUILT.");
        for (String text : faults) unchanged("touched by " + text, () -> retold(0, text), NO, WishToChip::touched);
        unchanged("touched by a RING", () -> retold(0, "o=n;n=o;"), NO, WishToChip::touched);
        unchanged("touched by a LACK", () -> retold(0, "g=a;p=o;"), NO, WishToChip::touched);
        Due.due("touched, though THE NET's TEXT may not be BUILT", retold(1, "g").touched(), Due.bits("ghpq"));
    }

    /** In the midst of things one TEXT is told anew. */
    private static WishToChip retold(int view, String text) {
        WishToChip x = midst();
        Due.retell(x, view, text);
        return x;
    }

    private static void noValueAndBack() {
        sentence(10, "NO", "NO: there was none since THE WISH was BUILT.");
        for (int k = 0; k <= 18; k++) {
            int name = k;
            unchanged("value of a new one", WishToChip::new, NO, x -> x.value(name));
            unchanged("value behind build", () -> retoldAndBuilt(), NO, x -> x.value(name));
        }
        sentence(38, "NO", "As KEPT last (STEPS there were, and values of the last one, stay): how many are left. NO.");
        unchanged("back of a new one", WishToChip::new, NO, WishToChip::back);
        unchanged("back, what was KEPT is back", () -> backInTheMidst(), NO, WishToChip::back);
        unchanged("back, nothing KEPT any more", () -> backAsOftenAsKept(), NO, WishToChip::back);
    }

    private static WishToChip retoldAndBuilt() {
        WishToChip x = retold(0, "g=b;");
        x.build(0);
        return x;
    }

    private static WishToChip backInTheMidst() {
        WishToChip x = midst();
        x.back();
        return x;
    }

    private static WishToChip backAsOftenAsKept() {
        WishToChip x = allFull();
        x.back();
        x.back();
        x.state(0x55);
        x.start(3);
        x.ends(64);
        return x;
    }

    private static void noPlace() {
        sentence(24, "NO", "NO: another one is there.");
        for (int many = 2; many <= 7; many++) {
            int n = many;
            for (int block = 0; block < n; block++) {
                int one = block;
                int other = (block + 1) % n;
                Maker maker = () -> withOneAtSeven(n);
                int there = other == 0 ? 7 : other;
                unchanged("BLOCK " + one + " to " + other + "'s PLACE", maker, NO, x -> x.place(one, there));
            }
        }
    }

    private static WishToChip withOneAtSeven(int many) {
        WishToChip x = Due.blocks(many, 3, (1 << many) - 1);
        x.place(0, 7);
        return x;
    }

    // ---- FULL

    private static void fullTexts() {
        sentence(2, "FULL", "TEXTS of bytes (200 at most)");
        for (int view = 0; view < 2; view++) {
            for (int n = 1; n <= 8; n++) {
                for (int room = 0; room < n; room++) {
                    int in = view;
                    int bytes = n;
                    int length = 200 - room;
                    Maker maker = () -> Due.told(in, "g=a" + "~".repeat(length - 3));
                    unchanged("write of " + bytes + " behind " + length, maker, FULL, x -> x.write(in, bytes, 0x3B3B3B3B3B3B3B3BL));
                }
            }
        }
    }

    private static void fullRows() {
        sentence(22, "FULL", "A BLOCK: its number. FULL: 7.");
        unchanged("an eighth BLOCK", () -> Due.blocks(7, 3, 127), FULL, WishToChip::block);
        unchanged("an eighth BLOCK", RefusedEdges::allFull, FULL, WishToChip::block);
        sentence(23, "FULL", "NETS, 8 at most, are sets of BLOCKS (two or more)");
        unchanged("a ninth NET", () -> Due.blocks(3, 3, 5, 6, 7, 3, 5, 6, 7), FULL, x -> x.net(3));
        unchanged("a ninth NET of all", RefusedEdges::allFull, FULL, x -> x.net(127));
        sentence(31, "FULL", "TRIALS are ROWS, 10 at most.");
        unchanged("an eleventh TRIAL", () -> withTrials(10), FULL, x -> x.trial(0));
        unchanged("an eleventh TRIAL", RefusedEdges::allFull, FULL, x -> x.trial(1023));
        sentence(37, "FULL", "KEPT are both VIEWS, registers, START, ENDS, 2 at most.");
        unchanged("a third one KEPT", RefusedEdges::allFull, FULL, WishToChip::keep);
        unchanged("a third one KEPT of nothing", () -> keptTwice(), FULL, WishToChip::keep);
        unchanged("a third one KEPT in the midst", () -> keptAgain(), FULL, WishToChip::keep);
        sentence(31, "FULL", "Of several the first; nothing changes then.");
        unchanged("BAD ahead of FULL: trial", RefusedEdges::allFull, BAD, x -> x.trial(1024));
        unchanged("BAD ahead of FULL: net", RefusedEdges::allFull, BAD, x -> x.net(1));
        unchanged("BAD ahead of FULL: write", RefusedEdges::allFull, BAD, x -> x.write(0, 9, 0));
        unchanged("BAD ahead of NO: ring", () -> retold(0, "g"), BAD, x -> x.ring(0, 2));
        unchanged("BAD ahead of NO: place", () -> Due.blocks(2), BAD, x -> x.place(2, 1));
        unchanged("BAD ahead of NO: value", WishToChip::new, BAD, x -> x.value(19));
    }

    private static WishToChip keptAgain() {
        WishToChip x = midst();
        x.keep();
        x.start(11);
        return x;
    }

    private static WishToChip keptTwice() {
        WishToChip x = new WishToChip();
        x.keep();
        x.keep();
        x.start(7);
        return x;
    }

    // ---- NONE

    private static void noneOfTexts() {
        sentence(4, "NONE", "FAULT. NONE; BAD.");
        for (int k = 0; k < 2; k++) {
            int view = k;
            for (String text : new String[] {"", "g=a;", "s=s;", "g=g;", "p=o;", filled("g=ab&;")}) {
                unchanged("fault of " + text, () -> retold(view, text), NONE, x -> x.fault(view));
            }
        }
        sentence(5, "NONE", "RING: the least wire that leans on itself. LACK: the least wire that is in some LINE, but has none.");
        for (int k = 0; k < 2; k++) {
            int view = k;
            for (String text : new String[] {"", "g=a;", "p=p;", "g=p;p=g;", "p=o;"}) {
                unchanged("RING of " + text, () -> retold(view, text), NONE, x -> x.ring(view, 0));
            }
            for (String text : new String[] {"", "g=a;", "p=q;", "o=p;p=o;", "o=o;"}) {
                unchanged("LACK of " + text, () -> retold(view, text), NONE, x -> x.ring(view, 1));
            }
        }
        sentence(7, "NONE", "NONE: it has no LINE");
        for (int what = 0; what <= 2; what++) {
            int k = what;
            refused("line(0, v, " + what + ") without a LINE", NONE, (x, v) -> x.line(0, v, k), 9, 10, 13, 17);
            refused("line(1, v, " + what + ") without a LINE", NONE, (x, v) -> x.line(1, v, k), 9, 10, 13, 18);
        }
        sentence(15, "NONE", "DIFFER at a name (6 to 18): the ROW. NONE; BAD.");
        refused("differ where neither has a LINE", NONE, WishToChip::differ, 10, 11, 12);
        unchanged("differ of an empty WISH and NET", WishToChip::new, NONE, x -> x.differ(18));
    }

    private static void noneOfTimes() {
        sentence(19, "NONE", "NONE: it has no LINE; BAD (names -1, 6 to 18).");
        refused("cover(0, v) without a LINE", NONE, (x, v) -> x.cover(0, v), 9, 10, 13, 17);
        refused("cover(1, v) without a LINE", NONE, (x, v) -> x.cover(1, v), 9, 10, 13, 18);
        sentence(21, "NONE", "its SLACK (i = -2: it may be below 0; NONE -10000), else the i-th name of THE WAY (0: the name itself). NONE");
        for (int corner = 0; corner <= 2; corner++) {
            int k = corner;
            for (int view = 0; view < 2; view++) {
                int in = view;
                unchanged("worst without LINES", WishToChip::new, NONE, x -> x.worst(in, k, -1));
                unchanged("SLACK without LINES", WishToChip::new, -10000, x -> x.worst(in, k, -2));
                unchanged("THE WAY without LINES", WishToChip::new, NONE, x -> x.worst(in, k, 0));
                unchanged("THE WAY without LINES, far on", WishToChip::new, NONE, x -> x.worst(in, k, HIGH));
            }
        }
        refused("worst(.., v) behind the end of THE WAY", NONE, (x, v) -> x.worst(0, 0, v), 5, 11, 12, 199, HIGH);
    }

    private static void noneOfTrials() {
        sentence(30, "NONE", "NONE: it CAN'T be found");
        refused("finds of what is in no LINE", NONE, WishToChip::finds, 24, 25, 26, 27);
        for (int k = 0; k < 38; k++) {
            int fault = k;
            unchanged("finds without LINES", WishToChip::new, NONE, x -> x.finds(fault));
        }
        sentence(35, "NONE", "the i-th by numbers (38: none fails). NONE; BAD.");
        refused("could behind the last", NONE, WishToChip::could, 39, 40, 64, 1000, HIGH);
        unchanged("could, if none COULD be", () -> noneCouldBe(), NONE, x -> x.could(0));
        sentence(36, "NONE", "none, if one or no FAULT COULD be.");
        unchanged("parts without TRIALS", WishToChip::new, NONE, WishToChip::parts);
        unchanged("parts, if none COULD be", () -> noneCouldBe(), NONE, WishToChip::parts);
        unchanged("parts, if one COULD be", () -> oneCouldBe(), NONE, WishToChip::parts);
    }

    private static WishToChip noneCouldBe() {
        WishToChip x = withTrials(2);
        x.see(0, Due.bits("s"));
        return x;
    }

    private static WishToChip oneCouldBe() {
        WishToChip x = Due.built("", "g=a;h=ab&;");
        x.trial(3);
        x.trial(2);
        x.see(0, Due.bits("g"));
        Due.due("how many COULD be", x.could(-1), 1);
        return x;
    }

    /** Whatever answer of refusal the document names with a promise has been met there. */
    private static void allThatTheDocumentNames() {
        Due.sentence(39, "Of several the first; nothing changes then.");
        String[] sections = Due.document().split("## Promise ");
        Due.due("sections of promises", sections.length - 1, 39);
        for (int k = 1; k < sections.length; k++) {
            String section = sections[k].split("## ")[0];
            Due.due("number of the section", Integer.parseInt(section.split(":")[0]), k);
            Matcher code = Pattern.compile("\\b(BAD|NO|FULL|NONE)\\b").matcher(section);
            while (code.find()) {
                if (!MET.contains(k + " " + code.group())) Due.fail("promise " + k + ": no test of " + code.group());
            }
        }
    }
}
