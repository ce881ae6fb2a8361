/**
 * Sentences of "Terms" and of the promises that had no test of their own, or only one of what they refuse, when the
 * document was read once more from its first line.
 */
public final class SentenceTests {
    private static final int BAD = Due.BAD, NO = Due.NO, FULL = Due.FULL, NONE = Due.NONE;
    private static final int X = 2, ALL_X = 0xAA, MOST_CALLS = 512;

    public static void main(String[] args) {
        names();
        calls();
        views();
        tokensThatTakeNothing();
        faultOfText();
        ringAndLackOfText();
        valuesOfSteps();
        valuesOfRows();
        startBecomes();
        differAtNames();
        touchedByLateWishes();
        pricesAndDelays();
        arrivalByGates();
        lineAndLoad();
        theWayBegins();
        partsTheTrial();
        noAsThingsStand();
        full();
        Due.end();
    }

    private static boolean isWire(int name) {
        return name >= 6 && name <= 14;
    }

    // ---- the first lines

    private static void names() {
        Due.sentence(7, "NAMES are numbers 0 to 18, told as letters:");
        StringBuilder letters = new StringBuilder();
        for (int name = 0; name <= 18; name++) letters.append(Due.letter(name));
        Due.due("nineteen letters", letters.toString().equals("abcdefghijklmnopqrs") ? 1 : 0, 1);
        WishToChip x = Due.built("g=a;h=a;i=a;j=a;k=a;l=a;m=a;n=a;o=a;p=" + letters.substring(0, 9) + "&&&&&&&&;q="
                + letters.substring(9) + "&&&&&&&&&;", "");
        Due.due("p leans on the first nine", x.line(0, 15, 1), 0x1FF);
        Due.due("q on the last ten, and on a through wires", x.line(0, 16, 1), 0x7FE00 | 1);
        for (int name = 6; name <= 18; name++) Due.due("TOKENS that are " + name, x.line(0, name, 2), isWire(name) || name < 17 ? 1 : NONE);
        Due.each("no such name", BAD, v -> x.line(0, v, 0), -1, 19, 26, 'g', 's');
    }

    /** What asks and changes nothing, call by call. */
    private static int asked(WishToChip x, int number) {
        switch (number % 18) {
            case 0: return x.fault(0);
            case 1: return x.ring(1, 0);
            case 2: return x.line(0, 6, 1);
            case 3: return x.value(6);
            case 4: return x.truth(1, 15, 515);
            case 5: return x.ones(0, 15);
            case 6: return x.states();
            case 7: return x.differ(6);
            case 8: return x.touched();
            case 9: return x.cover(1, -1);
            case 10: return x.arrival(0, 15, 2);
            case 11: return x.worst(1, 1, 1);
            case 12: return x.wire(-1);
            case 13: return x.least(1);
            case 14: return x.fails(0, 3);
            case 15: return x.finds(13);
            case 16: return x.fewest(1);
            default: return x.could(-1) * 10 + x.parts();
        }
    }

    private static void calls() {
        Due.sentence(1, "An object is used for at most 512 calls after it has been made; what later calls answer is free.");
        WishToChip x = new WishToChip();
        x.write(0, 8, 0x673D6162263B703DL);
        x.write(0, 4, 0x67705E3BL);
        x.build(0);
        x.write(1, 8, 0x673D61627C3B703DL);
        x.write(1, 4, 0x67705E3BL);
        x.build(1);
        x.step(3, 0);
        for (int k = 0; k < 3; k++) x.block();
        x.net(3);
        x.net(5);
        x.trial(3);
        x.trial(0);
        int made = 14;
        int[] first = new int[18];
        for (int number = 0; number < 18; number++) first[number] = asked(x, number);
        made += 19;
        for (int number = 0; made + 2 <= MOST_CALLS; number++) {
            Due.due("the same at call " + made, asked(x, number), first[number % 18]);
            made += number % 18 == 17 ? 2 : 1;
        }
        // free as these answers are, the calls end and throw nothing
        for (int number = 0; number < 3 * MOST_CALLS; number++) asked(x, number);
        for (int number = 0; number < MOST_CALLS; number++) {
            x.step(number & 63, 0);
            x.write(0, 8, number);
            x.trial(number);
            x.keep();
            x.block();
            x.net(3);
        }
    }

    // ---- terms

    private static void views() {
        Due.sentence(6, "VIEWS 0 (THE WISH) and 1 (THE NET) are TEXTS of bytes (200 at most): LINES, each: a letter g to s (none twice), =, TOKENS, ; .");
        WishToChip x = Due.built("g=1;", "g=0;");
        Due.due("VIEW 0", x.truth(0, 6, 0), 1);
        Due.due("VIEW 1", x.truth(1, 6, 0), 0);
        x.step(0, 0);
        Due.due("THE WISH is STEPPED", x.value(6), 1);
        Due.due("THE NET has FAULTS: g at 0 is what it is", x.fails(12, 0), 0);
        Due.due("THE NET has FAULTS: g at 1", x.fails(13, 0), 1 << 6);
        for (int view = 0; view < 2; view++) {
            for (char letter = 'g'; letter <= 's'; letter++) {
                Due.due("a LINE of " + letter, Due.told(view, letter + "=a;").fault(view), NONE);
                Due.due(letter + " twice", Due.told(view, letter + "=a;" + letter + "=a;").fault(view), 4);
            }
            Due.due("200 bytes", Due.told(view, "g=a" + "~".repeat(196) + ";").count(view), 200);
            Due.due("201 bytes: the last write is refused", Due.told(view, "~".repeat(201)).count(view), 200);
            Due.due("without =", Due.told(view, "ga;").fault(view), 1);
            Due.due("without TOKENS", Due.told(view, "g=;").fault(view), 2);
            Due.due("without ;", Due.told(view, "g=a").fault(view), 3);
        }
    }

    private static void tokensThatTakeNothing() {
        Due.sentence(11, "TOKENS are: a letter a to s (its value), 0, 1, and ~");
        for (int row : new int[] {0, 1, 42, 341, 682, 960, 1023}) {
            for (int name = 0; name <= 18; name++) {
                char letter = Due.letter(name);
                boolean toBeTold = isWire(name);
                char shows = name == 6 ? 'h' : 'g';
                WishToChip x = Due.built("", shows + "=" + letter + ";s=" + letter + "~;" + (toBeTold ? letter + "=c;" : ""));
                int its = row >> (name < 6 ? name : toBeTold ? 2 : name - 9) & 1;
                Due.due("TOKEN " + letter + " in " + row, x.truth(1, Due.name(shows), row), its);
                Due.due("~ of " + letter + " in " + row, x.truth(1, 18, row), 1 - its);
            }
            WishToChip x = Due.built("g=0;h=1;i=0~;j=1~;", "");
            for (int k = 0; k < 4; k++) Due.due("0, 1, 0~, 1~ in " + row, x.truth(0, 6 + k, row), k == 1 || k == 2 ? 1 : 0);
        }
    }

    private static void faultOfText() {
        Due.sentence(4, "FAULT: the place of the first byte that can't stand there (a letter told twice: that; "
                + "a token for which there are not enough values, or which would make more than 10: that; "
                + "; with another number than one: that; the end: how many bytes there are).");
        Due.due("a letter told twice", Due.told(0, "g=a;h=b;g=c;").fault(0), 8);
        Due.due("not enough values", Due.told(0, "g=a;h=b&;").fault(0), 7);
        Due.due("an eleventh value", Due.told(0, "g=" + "a".repeat(10) + "b").fault(0), 12);
        Due.due("; with none", Due.told(0, "g=a;h=;").fault(0), 6);
        Due.due("; with two", Due.told(0, "g=a;h=ab;").fault(0), 8);
        Due.due("the end", Due.told(0, "g=a;h=ab&").fault(0), 9);
        Due.sentence(4, "`int fault(int view)`: FAULT. NONE; BAD.");
        WishToChip x = Due.told(0, "g=a;h=ab;");
        Due.put(x, 1, "g=a;h=a;");
        Due.due("of one", x.fault(0), 8);
        Due.due("of the other", x.fault(1), NONE);
        Due.put(x, 0, "h=a;");
        Due.due("what comes behind it mends nothing", x.fault(0), 8);
        x.clear(0);
        Due.due("of an empty one", x.fault(0), NONE);
        Due.due("of THE TEXT, not as BUILT", x.build(0) == 0 && x.write(0, 1, 'x') == 1 ? x.fault(0) : BAD, 0);
    }

    private static void ringAndLackOfText() {
        Due.sentence(5, "RING (what = 0), LACK (1) of THE TEXT.");
        WishToChip x = Due.built("g=a;", "");
        Due.retell(x, 0, "k=kj&;i=o;");
        Due.due("RING", x.ring(0, 0), Due.name('k'));
        Due.due("LACK", x.ring(0, 1), Due.name('j'));
        Due.put(x, 1, "o=n;n=m;m=a;");
        Due.due("the other one's RING", x.ring(1, 0), NONE);
        Due.due("the other one's LACK", x.ring(1, 1), NONE);
        Due.due("THE WISH is as BUILT", x.count(2), 1);
    }

    private static void valuesOfSteps() {
        Due.sentence(9, "STEPPED is THE WISH: a value is 0, 1, or x (2).");
        WishToChip x = Due.built("g=a~;p=a;q=a~;", "g=0;p=0;");
        Due.due("a is 0: p 0, q 1", x.step(0, 0), 0xA4);
        Due.due("a", x.value(0), 0);
        Due.due("g", x.value(6), 1);
        Due.due("a is 1: p 1, q 0", x.step(1, 0), 0xA1);
        Due.due("a", x.value(0), 1);
        Due.due("g", x.value(6), 0);
        Due.due("a is not known: p x, q x", x.step(1, 1), ALL_X);
        Due.due("a", x.value(0), X);
        Due.due("g", x.value(6), X);
    }

    private static void valuesOfRows() {
        Due.sentence(11, "THE VALUE of a name in a ROW, by a VIEW: inputs, registers as told;");
        WishToChip x = Due.built("g=a~;p=p~;", "g=s;s=g;");
        for (int view = 0; view < 2; view++) {
            for (int bit = 0; bit < 6; bit++) {
                Due.due("input " + bit, x.truth(view, bit, 1 << bit), 1);
                Due.due("input " + bit, x.truth(view, bit, 1023 ^ 1 << bit), 0);
            }
        }
        Due.due("a register in a LINE is as told", x.truth(1, 6, 512), 1);
        Due.due("a register in a LINE is as told", x.truth(1, 6, 511), 0);
        Due.sentence(11, "THE VALUE of a name (a register: its NEXT) in a ROW by a VIEW.");
        Due.due("NEXT of p by THE WISH", x.truth(0, 15, 64), 0);
        Due.due("NEXT of p by THE NET", x.truth(1, 15, 64), 1);
        Due.due("NEXT of s is g, which is s", x.truth(1, 18, 512), 1);
        Due.due("THE VALUE of g by THE WISH", x.truth(0, 6, 512), 1);
        x.state(0x55);
        Due.due("registers of STEPS are none of a ROW's", x.truth(0, 17, 0), 0);
    }

    private static void startBecomes() {
        Due.sentence(13, "START becomes v: what it was.");
        WishToChip x = Due.built("q=p;", "q=0;");
        Due.due("0 at first", x.start(1), 0);
        Due.due("from p: p and q", x.states(), 1 << 1 | 1 << 3);
        Due.due("q's NEXT is p", x.differ(16), 64);
        Due.due("1", x.start(8), 1);
        Due.due("from s", x.states(), 1 << 8);
        Due.due("p never is", x.differ(16), NONE);
        Due.due("8", x.start(8), 8);
        Due.rebuild(x, 0, "");
        Due.due("it stays when THE WISH is BUILT", x.start(0), 8);
    }

    private static void differAtNames() {
        Due.sentence(15, "DIFFER at a name (6 to 18): the ROW.");
        for (int name = 6; name <= 18; name++) {
            char letter = Due.letter(name);
            WishToChip x = Due.built(letter + "=ab&;", letter + "=ab&cd&|;");
            for (int other = 6; other <= 18; other++) {
                Due.due("at " + other + ", told at " + name, x.differ(other), other == name ? 12 : NONE);
            }
        }
    }

    private static void touchedByLateWishes() {
        Due.sentence(16, "TOUCHED by a late wish, told as another TEXT in place of THE WISH's: names (g to s) whose VALUE (NEXT) is otherwise in some ROW than THE WISH's as it is BUILT.");
        WishToChip x = Due.built("g=ab&;h=gc|;p=h;q=q;", "i=a;");
        Due.retell(x, 0, "h=gc|;g=a~b~|~;p=h;");
        Due.due("told otherwise, but alike", x.touched(), 0);
        Due.retell(x, 0, "g=ab|;h=gc|;p=h;");
        Due.due("g, and what leans on it", x.touched(), Due.bits("ghp"));
        Due.retell(x, 0, "g=ab&;h=gc|;p=h;r=r~;o=1;n=0;");
        Due.due("a register that stayed, a wire that was 0", x.touched(), Due.bits("ro"));
        Due.retell(x, 0, "");
        Due.due("an empty one", x.touched(), Due.bits("ghp"));
        Due.sentence(16, "TOUCHED names as bits, THE TEXT of VIEW 0 the late wish.");
        Due.retell(x, 1, "g=1;h=1;");
        Due.retell(x, 0, "g=ab&;h=gc|;p=h;s=s~;");
        Due.due("not THE TEXT of VIEW 1", x.touched(), Due.bits("s"));
        Due.due("THE WISH is as it was", x.count(2), 4);
        Due.due("BUILT now", x.build(0), 4);
        Due.due("nothing is late any more", x.touched(), 0);
    }

    // ---- gates, times

    private static void pricesAndDelays() {
        Due.sentence(17, "PRICE (what = 0), DELAY (1) of a KIND: what it was.");
        int[] prices = {1, 3, 3, 2, 2, 5, 6};
        int[] delays = {1, 2, 2, 1, 1, 3, 3};
        WishToChip x = new WishToChip();
        for (int kind = 0; kind <= 6; kind++) {
            Due.due("PRICE of " + kind, x.gate(kind, 0, 60 + kind), prices[kind]);
            Due.due("DELAY of " + kind, x.gate(kind, 1, 40 + kind), delays[kind]);
        }
        for (int kind = 0; kind <= 6; kind++) {
            Due.due("PRICE of " + kind + " since", x.gate(kind, 0, 1), 60 + kind);
            Due.due("DELAY of " + kind + " since", x.gate(kind, 1, 1), 40 + kind);
        }
    }

    private static void arrivalByGates() {
        Due.sentence(20, "ARRIVAL of a name at a CORNER, by a VIEW: of inputs, registers 0; at a LINE, by gates as its TOKENS are (0, 1, 2, 5, 6): a TOKEN's is the greatest of what it takes and the gate's;");
        WishToChip x = Due.built("g=a~;h=ab&;i=ab|;j=ab^;k=abc?;l=ab&~;m=ab|~;", "g=a;");
        int[] delays = {11, 13, 17, 19, 23, 29, 31};
        for (int kind = 0; kind <= 6; kind++) x.gate(kind, 1, delays[kind]);
        int[] due = {11, 13, 17, 29, 31, 13 + 11, 17 + 11};
        for (int k = 0; k < due.length; k++) Due.due("ARRIVAL of " + Due.letter(6 + k), x.arrival(0, 6 + k, 0), due[k]);
        Due.due("by THE NET", x.arrival(1, 6, 0), 0);
        x.rule(1, 50);
        x.rule(2, 300);
        int[][] corners = {{6, 7, 9, 15, 16}, {33, 39, 51, 87, 93}};
        for (int k = 0; k < 5; k++) {
            for (int corner = 1; corner <= 2; corner++) {
                Due.due(Due.letter(6 + k) + " at " + corner, x.arrival(0, 6 + k, corner), corners[corner - 1][k]);
            }
        }
        WishToChip greatest = Due.built("g=a~~b~cd^?;", "");
        Due.due("2, 1, 3 and ?", greatest.arrival(0, 6, 0), 6);
    }

    private static void lineAndLoad() {
        Due.sentence(20, "the LINE's that, and LOAD (0 to 9; 1 at first)");
        WishToChip x = Due.built("g=ab&;h=gg|;p=gh^;q=q~;", "");
        Due.due("g: 2 and three TOKENS", x.arrival(0, 6, 0), 5);
        Due.due("h: 5, 2 and one TOKEN", x.arrival(0, 7, 0), 8);
        Due.due("p: 8, 3", x.arrival(0, 15, 0), 11);
        Due.due("q: 0, 1 and nothing for its TOKEN", x.arrival(0, 16, 0), 1);
        x.rule(3, 9);
        Due.due("g: 2 and 27", x.arrival(0, 6, 0), 29);
        Due.due("h: 29, 2 and 9", x.arrival(0, 7, 0), 40);
        x.rule(2, 300);
        Due.due("LOAD has no FACTOR: 6 and 27", x.arrival(0, 6, 2), 33);
    }

    private static void theWayBegins() {
        Due.sentence(21, "THE WAY from it back: it, then the name of the TOKEN (a name)");
        WishToChip x = Due.built("g=ab^;h=gc&;s=dh|;r=h;", "");
        int[] way = {18, 7, 6, 0};
        for (int i = 0; i < way.length; i++) Due.due("name " + i, x.worst(0, 0, i), way[i]);
        Due.due("behind a", x.worst(0, 0, 4), NONE);
        Due.due("it", x.worst(0, 0, -1), 18);
        Due.due("3, 1, 2, 2, 2", x.worst(0, 0, -2), 20 - 10);
    }

    // ---- trials

    private static void partsTheTrial() {
        Due.sentence(36, "PARTS: the TRIAL. NONE.");
        WishToChip x = Due.built("", "g=ab&;");
        Due.due("no TRIAL", x.parts(), NONE);
        x.trial(1023);
        Due.due("the only one", x.parts(), 0);
        x.trial(0);
        Due.due("3 are found by the first, 1 by the other", x.parts(), 0);
        x.see(0, 0);
        Due.due("the other one", x.parts(), 1);
        x.see(1, 0);
        Due.due("none is left", x.parts(), NONE);
    }

    // ---- NO and FULL

    private static void noAsThingsStand() {
        Due.sentence(38, "NO: not as things stand.");
        WishToChip x = Due.told(0, "g=h;h");
        Due.due("ring with a FAULT", x.ring(0, 0), NO);
        Due.due("build with a FAULT", x.build(0), NO);
        Due.due("touched with a FAULT", x.touched(), NO);
        Due.put(x, 0, "=a;");
        Due.due("ring then", x.ring(0, 0), NONE);
        Due.due("touched then", x.touched(), Due.bits("gh"));
        Due.due("build then", x.build(0), 2);
        Due.due("value without a STEP", x.value(7), NO);
        x.step(1, 0);
        Due.due("value then", x.value(7), 1);
        Due.due("back with nothing KEPT", x.back(), NO);
        x.keep();
        Due.due("back then", x.back(), 0);
        x.block();
        x.block();
        Due.due("place where another one is", x.place(0, 1), NO);
        x.place(1, 5);
        Due.due("place then", x.place(0, 1), 0);
    }

    private static void full() {
        Due.sentence(37, "FULL. Of several the first; nothing changes then.");
        WishToChip x = Due.told(0, "~".repeat(200));
        Due.due("write", x.write(0, 1, 'g'), FULL);
        x.clear(0);
        Due.due("write then", x.write(0, 1, 'g'), 1);
        for (int k = 0; k < 10; k++) x.trial(k);
        Due.due("trial", x.trial(5), FULL);
        x.noTrials();
        Due.due("trial then", x.trial(5), 1);
        x.keep();
        x.keep();
        Due.due("keep", x.keep(), FULL);
        x.back();
        Due.due("keep then", x.keep(), 2);
        for (int k = 0; k < 7; k++) x.block();
        Due.due("block", x.block(), FULL);
        for (int k = 0; k < 8; k++) x.net(3);
        Due.due("net", x.net(3), FULL);
        Due.due("BAD is ahead of FULL: net", x.net(1), BAD);
        Due.due("BAD is ahead of FULL: trial", x.trial(1024), BAD);
        Due.due("BAD is ahead of NO: value", x.value(19), BAD);
        Due.due("BAD is ahead of NO: place", x.place(7, 0), BAD);
        Due.due("nothing has changed: NETS", x.count(5), 8);
        Due.due("nothing has changed: BLOCKS", x.count(4), 7);
    }
}
