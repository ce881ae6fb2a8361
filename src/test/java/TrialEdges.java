import java.util.ArrayList;
import java.util.List;

/** Promises 28 to 39: each sentence of the document that names an edge of ENDS, FAULTS, TRIALS, what is KEPT, counts. */
public final class TrialEdges {
    private static final int BAD = Due.BAD, NO = Due.NO, FULL = Due.FULL, NONE = Due.NONE;
    private static final int BAD_SEEN = -100, FAULTS = 38, MOST_TRIALS = 10;
    private static final String ALL_AND = "abcdefpqrs&&&&&&&&&", ALL_OR = "abcdefpqrs|||||||||";

    public static void main(String[] args) {
        bitsOfEnds();
        endsThatHaveLines();
        stuckNames();
        nextIsNotStuck();
        failsByNumbers();
        leastRowThatFinds();
        cannotBeFound();
        rowsOfTrials();
        mostTrials();
        noTrialsAnyMore();
        howManyAreFound();
        fewestOfTrials();
        leastBits();
        seenOfTrials();
        nothingSeenAtFirst();
        couldBe();
        couldByNumbers();
        noneFails();
        partsOfTrials();
        partsOrNone();
        mostKept();
        backAsKept();
        stepsStay();
        counts();
        lastCall();
        Due.end();
    }

    // ---- promise 28

    private static void bitsOfEnds() {
        Due.sentence(28, "ENDS (bits 6 to 18 of names; others 0) become v: what they were. BAD.");
        WishToChip x = new WishToChip();
        Due.due("all at first", x.ends(0), Due.ALL_ENDS);
        int was = 0;
        for (int bit = 0; bit < 32; bit++) {
            boolean told = bit >= 6 && bit <= 18;
            Due.due("bit " + bit, x.ends(1 << bit), told ? was : BAD);
            if (told) was = 1 << bit;
            Due.due("all and bit " + bit, x.ends(Due.ALL_ENDS | 1 << bit), told ? was : BAD);
            if (told) was = Due.ALL_ENDS;
        }
        Due.each("beside these", BAD, x::ends, -1, 63, 63 | Due.ALL_ENDS, 1 << 19, Due.LOW, Due.HIGH);
        Due.due("none", x.ends(0), Due.ALL_ENDS);
        Due.due("what they were", x.ends(Due.ALL_ENDS), 0);
    }

    private static void endsThatHaveLines() {
        Due.sentence(28, "ENDS are names g to s that have LINES in THE NET and are told so (bits; all at first)");
        StringBuilder all = new StringBuilder();
        for (int name = 6; name <= 18; name++) all.append(Due.letter(name)).append("=a;");
        WishToChip x = Due.built("", all.toString());
        Due.due("all FAIL", x.fails(1, 0), Due.ALL_ENDS);
        for (int name = 6; name <= 18; name++) {
            x.ends(1 << name);
            Due.due("just " + Due.letter(name), x.fails(1, 0), 1 << name);
            x.ends(Due.ALL_ENDS ^ 1 << name);
            Due.due("all but " + Due.letter(name), x.fails(1, 0), Due.ALL_ENDS ^ 1 << name);
        }
        x.ends(0);
        Due.due("none", x.fails(1, 0), 0);
        Due.due("none is found", x.finds(1), NONE);
        WishToChip y = Due.built("h=a;", "g=a;");
        Due.due("only THE NET's LINES", y.fails(1, 0), 1 << 6);
        y.ends(1 << 7);
        Due.due("told so, but without a LINE", y.fails(1, 0), 0);
        Due.rebuild(y, 1, "h=a;");
        Due.due("ENDS stay when THE NET is BUILT", y.fails(1, 0), 1 << 7);
        Due.due("a wire without a LINE that is STUCK", y.fails(13, 0), 0);
    }

    // ---- promise 29

    private static void stuckNames() {
        Due.sentence(29, "FAULTS 0 to 37 of THE NET: name k is STUCK at v: 2 k + v (wherever its value is used, and as an END)");
        for (int name = 0; name <= 18; name++) {
            char n = Due.letter(name);
            boolean wire = name >= 6 && name <= 14;
            char shown = name == 6 ? 'h' : 'g';
            WishToChip x = Due.built("", shown + "=" + n + ";" + (wire ? n + "=a;" : ""));
            int bit = name < 6 ? name : wire ? 0 : name - 9;
            int ends = 1 << Due.name(shown) | (wire ? 1 << name : 0);
            Due.due(n + " at 0, which it is", x.fails(2 * name, 0), 0);
            Due.due(n + " at 1, which it is not", x.fails(2 * name + 1, 0), ends);
            Due.due(n + " at 0, which it is not", x.fails(2 * name, 1 << bit), ends);
            Due.due(n + " at 1, which it is", x.fails(2 * name + 1, 1 << bit), 0);
        }
        WishToChip both = Due.built("", "g=ab&;h=g~;i=gh|;p=gg^;");
        Due.due("g at 1 in each TOKEN", both.fails(13, 0), Due.bits("gh"));
        Due.due("h as an END and in i", both.fails(14, 0), Due.bits("hi"));
        Due.due("in all ROWS of an empty NET", new WishToChip().fails(37, 1023), 0);
    }

    private static void nextIsNotStuck() {
        Due.sentence(29, "A ROW's FAILS by a FAULT: ENDS whose VALUE is otherwise with it, as bits of names. It FINDS a FAULT, if there are any.");
        WishToChip alike = Due.built("", "g=a;h=a~;i=aa^;");
        Due.due("otherwise, be it 0 or 1; i is not", alike.fails(1, 0), Due.bits("gh"));
        Due.due("the same ROW FINDS it", alike.finds(1), 0);
        alike.ends(Due.bits("i"));
        Due.due("no END is otherwise: not found", alike.finds(1), NONE);
        Due.sentence(29, "a register's END is its NEXT (by its LINE; not stuck there)");
        for (int name = 15; name <= 18; name++) {
            char r = Due.letter(name);
            WishToChip x = Due.built("", r + "=a;g=" + r + ";");
            Due.due("only where it is used", x.fails(2 * name + 1, 0), 1 << 6);
            Due.due("only where it is used", x.fails(2 * name, 1023), 1 << 6);
            WishToChip itself = Due.built("", r + "=" + r + "~;");
            Due.due("in its own LINE", itself.fails(2 * name + 1, 0), 1 << name);
            Due.due("in its own LINE", itself.fails(2 * name, 1023), 1 << name);
            Due.due("without a LINE it is no END", Due.built("", "").fails(2 * name + 1, 0), 0);
        }
    }

    private static void failsByNumbers() {
        Due.sentence(29, "FAILS of a ROW by a FAULT. BAD.");
        WishToChip x = Due.built("", "g=" + ALL_AND + ";s=" + ALL_OR + ";");
        for (int fault = -2; fault <= 40; fault++) {
            boolean told = fault >= 0 && fault < FAULTS;
            boolean leaf = fault < 12 || fault >= 30;
            int inFirst = leaf && fault % 2 == 1 ? 1 << 18 : fault == 13 ? 1 << 6 : 0;
            int inLast = leaf && fault % 2 == 0 ? 1 << 6 : fault == 12 ? 1 << 6 : 0;
            Due.due("fails(" + fault + ", 0)", x.fails(fault, 0), told ? inFirst : BAD);
            Due.due("fails(" + fault + ", 1023)", x.fails(fault, 1023), told ? inLast : BAD);
        }
        Due.each("fails in", BAD, v -> x.fails(0, v), -1, 1024, Due.LOW, Due.HIGH);
        Due.each("fails by", BAD, v -> x.fails(v, 0), Due.LOW, Due.HIGH);
    }

    // ---- promise 30

    private static void leastRowThatFinds() {
        Due.sentence(30, "The least ROW that FINDS a FAULT.");
        WishToChip x = Due.built("", "g=" + ALL_AND + ";");
        Due.due("g at 1 by the first ROW", x.finds(13), 0);
        Due.due("g at 0 by the last ROW alone", x.finds(12), 1023);
        for (int bit = 0; bit < 10; bit++) {
            int name = bit < 6 ? bit : bit + 9;
            Due.due("name " + name + " at 0", x.finds(2 * name), 1023);
            Due.due("name " + name + " at 1", x.finds(2 * name + 1), 1023 ^ 1 << bit);
        }
        WishToChip y = Due.built("p=0;", "g=s;");
        y.start(0);
        Due.due("in all ROWS, be their state one that can't be", y.finds(36), 512);
        WishToChip z = Due.built("", "g=a;h=ab&;");
        Due.due("by the first of several ENDS", z.finds(0), 1);
        z.ends(1 << 7);
        Due.due("by those that are told", z.finds(0), 3);
    }

    private static void cannotBeFound() {
        Due.sentence(30, "CAN'T be found: by no ROW.");
        WishToChip empty = new WishToChip();
        for (int fault = -2; fault <= 40; fault++) {
            Due.due("finds(" + fault + ") without LINES", empty.finds(fault), fault >= 0 && fault < FAULTS ? NONE : BAD);
        }
        WishToChip x = Due.built("", "g=aa~&;h=bb~|;i=0;p=1;");
        Due.due("a at 0", x.finds(0), NONE);
        Due.due("a at 1", x.finds(1), NONE);
        Due.due("g at 0", x.finds(12), NONE);
        Due.due("g at 1", x.finds(13), 0);
        Due.due("h at 1", x.finds(15), NONE);
        Due.due("h at 0", x.finds(14), 0);
        Due.due("i at 0", x.finds(16), NONE);
        Due.due("p, which is not used", x.finds(30), NONE);
        Due.due("p, which is not used", x.finds(31), NONE);
    }

    // ---- promises 31, 32

    private static void rowsOfTrials() {
        Due.sentence(31, "A TRIAL: how many. BAD; FULL.");
        WishToChip x = Due.built("", "g=" + ALL_AND + ";h=" + ALL_OR + "~;");
        Due.each("trial", BAD, x::trial, -1, 1024, Due.LOW, Due.HIGH);
        Due.due("none came", x.count(6), 0);
        Due.due("the last ROW", x.trial(1023), 1);
        Due.due("names at 0, g at 0, h at 1", x.fewest(0), 12);
        Due.due("the first ROW", x.trial(0), 2);
        Due.due("names at 1, g at 1, h at 0 too", x.fewest(0), 24);
        Due.due("the same ROW again", x.trial(0), 3);
    }

    private static void mostTrials() {
        Due.sentence(31, "TRIALS are ROWS, 10 at most.");
        WishToChip x = Due.built("", "g=a;");
        for (int k = 1; k <= MOST_TRIALS; k++) Due.due("trial", x.trial(k == MOST_TRIALS ? 1 : 0), k);
        Due.due("an eleventh", x.trial(1), FULL);
        Due.due("an eleventh that is no ROW", x.trial(-1), BAD);
        Due.due("an eleventh that is no ROW", x.trial(1024), BAD);
        Due.due("TRIALS", x.count(6), MOST_TRIALS);
        Due.due("the tenth is one: a, g at 0 and at 1", x.fewest(0), 4);
        Due.due("the tenth is one", x.fewest(1), 1 | 1 << 9);
    }

    private static void noTrialsAnyMore() {
        Due.sentence(32, "No TRIALS: how many were.");
        for (int many = 0; many <= MOST_TRIALS; many++) {
            WishToChip x = Due.built("", "g=a;");
            for (int k = 0; k < many; k++) x.trial(1);
            for (int k = 0; k < many; k++) x.see(k, 1 << 6);
            Due.due("how many were", x.noTrials(), many);
            Due.due("TRIALS", x.count(6), 0);
            Due.due("none any more", x.noTrials(), 0);
            Due.due("nothing is SEEN", x.could(-1), 39);
            Due.due("nothing is found", x.fewest(0), 0);
            Due.due("there is no such TRIAL", x.see(0, 0), BAD_SEEN);
            Due.due("the first one again", x.trial(0), 1);
            Due.due("nothing is SEEN of it", x.see(0, -1), -1);
        }
    }

    // ---- promise 33

    private static void howManyAreFound() {
        Due.sentence(33, "FAULTS that some TRIAL finds: how many (what = 0); THE FEWEST as bits (1). BAD.");
        WishToChip none = new WishToChip();
        Due.due("without TRIALS", none.fewest(0), 0);
        Due.due("without TRIALS", none.fewest(1), 0);
        for (int k = 0; k < MOST_TRIALS; k++) none.trial(k);
        Due.due("without LINES", none.fewest(0), 0);
        Due.due("TRIALS that find nothing are none of THE FEWEST", none.fewest(1), 0);
        Due.each("fewest", BAD, none::fewest, -1, 2, Due.LOW, Due.HIGH);
        WishToChip most = Due.built("", allFoundBut("a"));
        most.trial(0);
        most.trial(1023);
        Due.due("all 38 of them", most.fewest(0), FAULTS);
        Due.due("by both", most.fewest(1), 3);
    }

    /** ROWS 0 and 1023 find all FAULTS; g at 1 only where its LINE is 0 in one of them. */
    private static String allFoundBut(String lineOfG) {
        return "o=abcdefpqr^^^^^^^^;n=s;h=a;i=a;j=a;k=a;l=a;m=a;g=" + lineOfG + ";";
    }

    private static void fewestOfTrials() {
        Due.sentence(33, "THE FEWEST: that set of TRIALS by which all FAULTS are found that some TRIAL finds: of fewest;");
        WishToChip x = Due.built("", "g=" + ALL_AND + ";");
        for (int bit = 0; bit < 10; bit++) {
            x.trial(1023 ^ 1 << bit);
            Due.due("name by name, and g", x.fewest(0), bit + 2);
            Due.due("all are needed", x.fewest(1), (2 << bit) - 1);
        }
        WishToChip one = Due.built("", "g=a;");
        for (int k = 0; k < 9; k++) one.trial(2 * k);
        one.trial(1);
        Due.due("the last and one of the others", one.fewest(1), 1 | 1 << 9);
        WishToChip best = Due.built("", "g=ab&;");
        best.trial(0);
        best.trial(1);
        best.trial(2);
        Due.due("two of three, which find what the first does", best.fewest(1), 6);
    }

    private static void leastBits() {
        Due.sentence(33, "of fewest; of several the least bits");
        WishToChip x = Due.built("", "g=a;");
        for (int k = 0; k < MOST_TRIALS; k++) x.trial(0);
        Due.due("the first of ten alike", x.fewest(1), 1);
        WishToChip y = Due.built("", "g=a;h=b;");
        for (int row : new int[] {3, 1, 2, 0}) y.trial(row);
        Due.due("1 and 2, not 0 and 3", y.fewest(1), 6);
        WishToChip z = Due.built("", "g=a;h=b;");
        for (int row : new int[] {1, 3, 0, 2}) z.trial(row);
        Due.due("1 and 2, not 0 and 3", z.fewest(1), 6);
        WishToChip w = Due.built("", "g=a;h=b;");
        for (int row : new int[] {3, 0, 1, 2}) w.trial(row);
        Due.due("0 and 1, not 2 and 3", w.fewest(1), 3);
    }

    // ---- promise 34

    private static void seenOfTrials() {
        Due.sentence(34, "SEEN of TRIAL i: FAILS (bits 6 to 18; -1: nothing): what it was. BAD answers -100.");
        for (int many = 0; many <= MOST_TRIALS; many++) {
            WishToChip x = new WishToChip();
            for (int k = 0; k < many; k++) x.trial(k);
            for (int i = -2; i <= 12; i++) {
                boolean told = i >= 0 && i < many;
                Due.due("see(" + i + ") of " + many, x.see(i, 64), told ? -1 : BAD_SEEN);
                Due.due("see(" + i + ") again", x.see(i, -1), told ? 64 : BAD_SEEN);
            }
            Due.each("see of", BAD_SEEN, v -> x.see(v, 0), Due.LOW, Due.HIGH);
        }
        WishToChip x = new WishToChip();
        x.trial(0);
        int was = -1;
        for (int bit = 0; bit < 32; bit++) {
            boolean told = bit >= 6 && bit <= 18;
            Due.due("bit " + bit, x.see(0, 1 << bit), told ? was : BAD_SEEN);
            if (told) was = 1 << bit;
        }
        for (int v : new int[] {0, Due.ALL_ENDS, -1, 0, -1, -1}) {
            Due.due("see " + v, x.see(0, v), was);
            was = v;
        }
        Due.each("see", BAD_SEEN, v -> x.see(0, v), -2, -3, -64, 63, Due.ALL_ENDS + 1, 1 << 19, Due.LOW, Due.HIGH);
        Due.due("nothing still", x.see(0, 0), -1);
        Due.due("0 is something SEEN", x.see(0, -1), 0);
    }

    private static void nothingSeenAtFirst() {
        Due.sentence(34, "SEEN of a TRIAL are FAILS of a made one (or nothing, at first).");
        WishToChip x = Due.built("", "g=a;");
        for (int k = 0; k < MOST_TRIALS; k++) {
            x.trial(1);
            Due.due("all COULD be", x.could(-1), 39);
        }
        for (int k = 0; k < MOST_TRIALS; k++) Due.due("nothing of " + k, x.see(k, -1), -1);
        x.see(9, 64);
        Due.due("of the last", x.could(-1), 2);
        x.noTrials();
        for (int k = 0; k < MOST_TRIALS; k++) x.trial(1);
        Due.due("nothing of a new one, though one ahead of it was SEEN", x.see(9, -1), -1);
        Due.rebuild(x, 1, "");
        Due.due("FAILS that no FAULT has may be SEEN", x.see(0, Due.ALL_ENDS), -1);
        Due.due("none COULD be", x.could(-1), 0);
    }

    // ---- promise 35

    private static void dueCould(WishToChip x, List<Integer> faults) {
        Due.due("how many COULD be", x.could(-1), faults.size());
        for (int i = 0; i <= 41; i++) Due.due("number " + i, x.could(i), i < faults.size() ? faults.get(i) : NONE);
        Due.each("far behind", NONE, x::could, 63, 64, 65, 1000, Due.HIGH);
        Due.each("ahead of -1", BAD, x::could, -2, -3, Due.LOW);
    }

    /** Those whose FAILS are as SEEN, by one call each; 38 if nothing FAILS. */
    private static List<Integer> asSeen(WishToChip x, int[] rows, int[] seen) {
        List<Integer> faults = new ArrayList<>();
        for (int fault = 0; fault <= FAULTS; fault++) {
            boolean like = true;
            for (int i = 0; i < rows.length; i++) {
                int fails = fault == FAULTS ? 0 : x.fails(fault, rows[i]);
                like &= seen[i] == -1 || seen[i] == fails;
            }
            if (like) faults.add(fault);
        }
        return faults;
    }

    private static WishToChip seen(String net, int[] rows, int[] fails) {
        WishToChip x = Due.built("", net);
        for (int row : rows) x.trial(row);
        for (int i = 0; i < rows.length; i++) x.see(i, fails[i]);
        return x;
    }

    private static void couldBe() {
        Due.sentence(35, "COULD be FAULTS whose FAILS are just what is SEEN in each TRIAL SEEN (and none at all, told as 38, if nothing FAILS).");
        String net = "g=ab&;h=gc|;p=hp^;q=g~;";
        int[] rows = {3, 4, 64, 1023, 0};
        int[][] all = {{-1, -1, -1, -1, -1}, {0, -1, -1, -1, -1}, {0, 0, 0, 0, 0}, {Due.bits("ghpq"), -1, -1, -1, -1},
            {-1, Due.bits("hp"), -1, -1, -1}, {Due.bits("g"), -1, -1, -1, -1}, {Due.ALL_ENDS, -1, -1, -1, -1},
            {-1, -1, -1, -1, Due.bits("ghpq")}, {0, -1, 0, -1, Due.bits("ghpq")}, {-1, 0, Due.bits("p"), 0, -1}};
        for (int[] fails : all) {
            dueCould(seen(net, rows, fails), asSeen(Due.built("", net), rows, fails));
        }
    }

    private static void couldByNumbers() {
        Due.sentence(35, "How many FAULTS COULD be (i = -1), the i-th by numbers (38: none fails). NONE; BAD.");
        List<Integer> every = new ArrayList<>();
        for (int fault = 0; fault <= FAULTS; fault++) every.add(fault);
        dueCould(new WishToChip(), every);
        dueCould(seen("g=a;", new int[] {1}, new int[] {-1}), every);
        dueCould(seen("", new int[] {1}, new int[] {0}), every);
        dueCould(seen("", new int[] {1}, new int[] {64}), List.of());
        dueCould(seen("g=a;", new int[] {1}, new int[] {64}), List.of(0, 12));
        dueCould(seen("g=a;h=ab&;", new int[] {3}, new int[] {64}), List.of(12));
        dueCould(seen("g=ab&;", new int[] {3, 0}, new int[] {0, 64}), List.of(13));
        dueCould(seen("g=ab&;h=a;", new int[] {3}, new int[] {Due.bits("gh")}), List.of(0));
        dueCould(seen("g=s;s=s~;", new int[] {0}, new int[] {Due.bits("gs")}), List.of(37));
        dueCould(seen("g=a;", new int[] {1, 1}, new int[] {64, 0}), List.of());
    }

    private static void noneFails() {
        Due.sentence(35, "(and none at all, told as 38, if nothing FAILS)");
        WishToChip x = seen("g=a;", new int[] {0, 1}, new int[] {0, 0});
        Due.due("the last is 38", x.could(x.could(-1) - 1), 38);
        Due.due("all but a, g", x.could(-1), 35);
        x.see(1, 64);
        Due.due("38 is none of them", x.could(x.could(-1) - 1), 12);
        x.see(1, -1);
        Due.due("38 again, by the other TRIAL", x.could(x.could(-1) - 1), 38);
        WishToChip alone = seen(allFoundBut("a"), new int[] {0, 1023}, new int[] {0, 0});
        Due.due("38 alone", alone.could(-1) * 100 + alone.could(0), 138);
        Due.due("nothing to part", alone.parts(), NONE);
    }

    // ---- promise 36

    private static void partsOfTrials() {
        Due.sentence(36, "PARTS: of TRIALS not SEEN that by which the greatest number of FAULTS that COULD be (38 too) with like FAILS is least; of several the lowest;");
        for (int best = 0; best < MOST_TRIALS; best++) {
            WishToChip x = Due.built("", "g=" + ALL_AND + ";");
            for (int k = 0; k < MOST_TRIALS; k++) x.trial(k == best ? 1023 : 0);
            Due.due("the one that parts most", x.parts(), best);
        }
        for (int many = 1; many <= MOST_TRIALS; many++) {
            WishToChip x = new WishToChip();
            for (int k = 0; k < many; k++) x.trial(k);
            for (int k = 0; k < many; k++) {
                Due.due("the lowest not SEEN", x.parts(), k);
                x.see(k, 0);
            }
            Due.due("all are SEEN", x.parts(), NONE);
            x.see(many - 1, -1);
            Due.due("the last is not SEEN any more", x.parts(), many - 1);
        }
        WishToChip y = seen("g=ab|;", new int[] {0, 3, 1}, new int[] {0, -1, -1});
        Due.due("36 COULD be with 38", y.could(-1), 36);
        Due.due("3 finds g at 0 alone, 1 finds a, g at 0", y.parts(), 2);
        int[] rows = {15, 7, 3};
        WishToChip z = seen("g=ab&;h=cd&;", rows, new int[] {Due.bits("g"), -1, -1});
        Due.due("a, b, g at 0 are alike by both: the lowest", z.parts(), 1);
    }

    private static void partsOrNone() {
        Due.sentence(36, "none, if one or no FAULT COULD be");
        Due.due("no TRIAL", new WishToChip().parts(), NONE);
        WishToChip no = seen("g=a;", new int[] {1, 0}, new int[] {128, -1});
        Due.due("no FAULT COULD be", no.could(-1) * 10 + no.parts(), NONE);
        WishToChip one = seen("g=a;h=ab&;", new int[] {3, 1}, new int[] {64, -1});
        Due.due("one COULD be", one.could(-1), 1);
        Due.due("parts", one.parts(), NONE);
        WishToChip two = seen("g=a;", new int[] {1, 0}, new int[] {64, -1});
        Due.due("two COULD be", two.could(-1), 2);
        Due.due("parts", two.parts(), 1);
        WishToChip with38 = seen(allFoundBut("a"), new int[] {0, 1023, 5}, new int[] {0, 0, -1});
        Due.due("38 alone COULD be", with38.could(-1) * 100 + with38.could(0), 138);
        Due.due("parts", with38.parts(), NONE);
        WishToChip pair = seen(allFoundBut("ab^~"), new int[] {0, 1023, 3, 1}, new int[] {0, 0, -1, -1});
        Due.due("one FAULT and 38 COULD be", pair.could(-1) * 10000 + pair.could(0) * 100 + pair.could(1), 21338);
        Due.due("the TRIAL that finds it", pair.parts(), 3);
        pair.see(3, 64);
        Due.due("the FAULT alone", pair.could(-1) * 100 + pair.could(0), 113);
        Due.due("nothing to part", pair.parts(), NONE);
    }

    // ---- promises 37, 38

    private static void mostKept() {
        Due.sentence(37, "KEPT: how many. FULL.");
        WishToChip x = new WishToChip();
        Due.due("first", x.keep(), 1);
        Due.due("second", x.keep(), 2);
        for (int k = 0; k < 3; k++) Due.due("third", x.keep(), FULL);
        Due.due("KEPT", x.count(7), 2);
        Due.due("back", x.back(), 1);
        Due.due("room again", x.keep(), 2);
        Due.due("back", x.back(), 1);
        Due.due("back", x.back(), 0);
        for (int k = 0; k < 3; k++) Due.due("nothing is left", x.back(), NO);
        Due.due("KEPT", x.count(7), 0);
        Due.due("first again", x.keep(), 1);
    }

    private static void backAsKept() {
        Due.sentence(38, "KEPT are both VIEWS, registers, START, ENDS, 2 at most.");
        WishToChip x = Due.built("g=a;", "h=b~;");
        x.state(0x15);
        x.start(1);
        x.ends(64);
        x.keep();
        Due.rebuild(x, 0, "g=b;i=1;");
        Due.rebuild(x, 1, "");
        x.state(0x2A);
        x.start(15);
        x.ends(0);
        x.keep();
        Due.rebuild(x, 0, "");
        Due.rebuild(x, 1, "g=0;h=0;i=0;");
        x.state(0);
        x.start(7);
        x.ends(Due.ALL_ENDS);
        Due.due("a third one", x.keep(), FULL);
        Due.due("back to the second", x.back(), 1);
        Due.due("LINES", x.count(2) * 10 + x.count(3), 20);
        Due.due("g is b", x.truth(0, 6, 2), 1);
        Due.due("registers", x.state(0), 0x2A);
        Due.due("START", x.start(0), 15);
        Due.due("ENDS", x.ends(64), 0);
        Due.due("back to the first", x.back(), 0);
        Due.due("LINES", x.count(2) * 10 + x.count(3), 11);
        Due.due("g is a", x.truth(0, 6, 2) * 10 + x.truth(0, 6, 1), 1);
        Due.due("h is b turned", x.truth(1, 7, 0) * 10 + x.truth(1, 7, 2), 10);
        Due.due("registers", x.state(0), 0x15);
        Due.due("START", x.start(0), 1);
        Due.due("ENDS", x.ends(0), 64);
        Due.due("no more", x.back(), NO);
        WishToChip others = Due.built("g=a;", "h=b;");
        others.keep();
        Due.put(others, 0, "i=a;");
        for (int k = 0; k < 3; k++) others.block();
        others.net(3);
        others.trial(5);
        others.see(0, 0);
        others.rule(4, 7);
        others.gate(0, 0, 9);
        others.back();
        int[] due = {8, 4, 1, 1, 3, 1, 1, 0, 0};
        for (int what = 0; what <= 8; what++) Due.due("what is not KEPT stays: count(" + what + ")", others.count(what), due[what]);
        Due.due("SEEN stays", others.see(0, -1), 0);
        Due.due("CLOCK stays", others.rule(4, 20), 7);
        Due.due("PRICE stays", others.gate(0, 0, 1), 9);
    }

    private static void stepsStay() {
        Due.sentence(38, "(STEPS there were, and values of the last one, stay)");
        WishToChip x = Due.built("g=a;", "");
        x.keep();
        x.step(1, 0);
        x.step(1, 0);
        x.back();
        Due.due("STEPS", x.count(8), 2);
        Due.due("g", x.value(6), 1);
        Due.due("a register", x.value(15), 2);
        WishToChip y = Due.built("g=a;", "");
        y.step(1, 0);
        y.keep();
        Due.rebuild(y, 0, "h=1;");
        y.back();
        Due.due("none since THE WISH was BUILT", y.count(8), 0);
        Due.due("none since THE WISH was BUILT", y.value(6), NO);
        WishToChip z = Due.built("g=a;", "");
        z.keep();
        Due.rebuild(z, 0, "g=a~;");
        z.step(1, 0);
        z.back();
        Due.due("the value by the other WISH", z.value(6), 0);
        Due.due("STEPS", z.count(8), 1);
        z.step(1, 0);
        Due.due("the value by the one that is back", z.value(6), 1);
        Due.due("STEPS", z.count(8), 2);
    }

    // ---- promise 39

    private static void counts() {
        Due.sentence(39, "How many: 0 and 1 bytes of both TEXTS, 2 and 3 LINES of both VIEWS, 4 BLOCKS, 5 NETS, 6 TRIALS, 7 KEPT, 8 STEPS since THE WISH was BUILT. BAD.");
        int[] most = {200, 199, 13, 12, 7, 8, 10, 2, 9};
        WishToChip x = new WishToChip();
        StringBuilder text = new StringBuilder();
        for (int name = 7; name <= 18; name++) text.append(Due.letter(name)).append("=0;");
        Due.rebuild(x, 1, text.toString());
        Due.rebuild(x, 0, "g=1;" + text);
        Due.put(x, 0, "~".repeat(148));
        Due.put(x, 1, "~".repeat(151));
        for (int k = 0; k < 9; k++) x.block();
        for (int k = 0; k < 9; k++) x.net(3);
        for (int k = 0; k < 11; k++) x.trial(k);
        for (int k = 0; k < 3; k++) x.keep();
        for (int k = 0; k < 9; k++) x.step(0, 0);
        for (int what = -3; what <= 12; what++) {
            boolean told = what >= 0 && what <= 8;
            Due.due("count(" + what + ") of a new one", new WishToChip().count(what), told ? 0 : BAD);
            Due.due("count(" + what + ")", x.count(what), told ? most[what] : BAD);
        }
        Due.each("count", BAD, x::count, Due.LOW, Due.HIGH);
        x.build(1);
        Due.due("STEPS, THE NET's TEXT not BUILT", x.count(8), 9);
        x.clear(0);
        x.build(0);
        Due.due("STEPS since THE WISH was BUILT", x.count(8), 0);
    }

    private static void lastCall() {
        Due.sentence(39, "An object is used for at most 512 calls after it has been made");
        WishToChip x = new WishToChip();
        for (int k = 1; k <= 511; k++) x.step(0, 0);
        Due.due("the 512th call", x.count(8), 511);
        WishToChip y = new WishToChip();
        for (int k = 1; k <= 511; k++) y.keep();
        Due.due("the 512th call", y.back(), 1);
    }
}
