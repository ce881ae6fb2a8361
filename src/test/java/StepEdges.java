/** Promises 8 to 16: each sentence of the document that names an edge of registers, STEPS, ROWS, STATES. */
public final class StepEdges {
    private static final int BAD = Due.BAD, NO = Due.NO, NONE = Due.NONE;
    private static final int X = 2, ALL_X = 0xAA;
    private static final String ALL_AND = "abcdefpqrs&&&&&&&&&", ALL_OR = "abcdefpqrs|||||||||";

    public static void main(String[] args) {
        registers();
        inputsOfSteps();
        unknownInputs();
        gatesWithX();
        neverSilentlyOneOrNought();
        valuesOfTheLastStep();
        noStepSinceBuilt();
        rowsOfTruth();
        gatesOfTruth();
        valueWithoutLine();
        howManyOnes();
        startOfStates();
        statesThatCanBe();
        leastRowThatDiffers();
        onlyStatesThatCanBe();
        touchedNames();
        lateWishesThatMayNotBeBuilt();
        Due.end();
    }

    // ---- promise 8

    private static boolean areRegisters(int v) {
        if (v < 0 || v > 255) return false;
        for (int r = 0; r < 4; r++) if ((v >> 2 * r & 3) == 3) return false;
        return true;
    }

    private static void registers() {
        Due.sentence(8, "Registers are so: two bits each, r from bit 2 r on (0, 1, 2 x): what they were, likewise.");
        int was = ALL_X;
        WishToChip x = new WishToChip();
        for (int v = -70; v <= 330; v++) {
            Due.due("state(" + v + ")", x.state(v), areRegisters(v) ? was : BAD);
            if (areRegisters(v)) was = v;
        }
        Due.due("the last one that was told", x.state(0), ALL_X);
        for (int r = 0; r < 4; r++) {
            for (int told = 0; told <= 2; told++) {
                WishToChip y = Due.built("g=" + Due.letter(15 + r) + ";", "");
                y.state(told << 2 * r);
                y.step(0, 0);
                Due.due("register " + r + " is " + told, y.value(6), told);
                for (int other = 0; other < 4; other++) {
                    Due.due("register " + other, y.value(15 + other), other == r ? told : 0);
                }
            }
        }
    }

    // ---- promise 9

    private static void inputsOfSteps() {
        Due.sentence(9, "A STEP by inputs (bits), those not known (bits) x: registers then, as state() tells. BAD.");
        for (int inputs = 0; inputs < 64; inputs++) {
            WishToChip x = Due.built("p=a;q=b;r=c;s=d;g=e;h=f;", "");
            int due = 0;
            for (int r = 0; r < 4; r++) due |= (inputs >> r & 1) << 2 * r;
            Due.due("step(" + inputs + ", 0)", x.step(inputs, 0), due);
            for (int k = 0; k < 6; k++) Due.due("input " + k, x.value(k), inputs >> k & 1);
            Due.due("input e", x.value(6), inputs >> 4 & 1);
            Due.due("input f", x.value(7), inputs >> 5 & 1);
        }
        WishToChip x = Due.built("p=a;", "");
        Due.each("step(.., 0)", BAD, v -> x.step(v, 0), -1, 64, Due.LOW, Due.HIGH);
        Due.each("step(0, ..)", BAD, v -> x.step(0, v), -1, 64, Due.LOW, Due.HIGH);
        Due.due("no STEP was made", x.value(0), NO);
        Due.due("no STEP was made", x.count(8), 0);
        Due.due("the greatest of both", x.step(63, 63), ALL_X);
        Due.due("the least of both", x.step(0, 0), 0xA8);
    }

    private static void unknownInputs() {
        Due.sentence(9, "those not known (bits) x");
        for (int unknown = 0; unknown < 64; unknown++) {
            for (int inputs : new int[] {0, 21, 42, 63}) {
                WishToChip x = new WishToChip();
                x.step(inputs, unknown);
                for (int k = 0; k < 6; k++) {
                    int due = (unknown >> k & 1) != 0 ? X : inputs >> k & 1;
                    Due.due("input " + k + " of step(" + inputs + ", " + unknown + ")", x.value(k), due);
                }
            }
        }
    }

    /** g by a, b, c, each 0, 1 or x. */
    private static int stepped(String tokens, int a, int b, int c) {
        WishToChip x = Due.built("g=" + tokens + ";", "");
        x.step(a & 1 | (b & 1) << 1 | (c & 1) << 2, a >> 1 | b >> 1 << 1 | c >> 1 << 2);
        return x.value(6);
    }

    /** ? of 0, 1 or x each. */
    private static int chosen(int a, int b, int c) {
        if (a != X) return a == 1 ? b : c;
        return b == c && b != X ? b : X;
    }

    private static void gatesWithX() {
        Due.sentence(9, "~ x is x; & is 0 if one is 0, else x if one is x; | is 1 if one is 1, else x if one is x; ^ is x if one is;");
        for (int a = 0; a <= 2; a++) {
            Due.due("~ of " + a, stepped("a~", a, 0, 0), a == X ? X : 1 - a);
            for (int b = 0; b <= 2; b++) {
                boolean unknown = a == X || b == X;
                Due.due("& of " + a + b, stepped("ab&", a, b, 0), a == 0 || b == 0 ? 0 : unknown ? X : 1);
                Due.due("| of " + a + b, stepped("ab|", a, b, 0), a == 1 || b == 1 ? 1 : unknown ? X : 0);
                Due.due("^ of " + a + b, stepped("ab^", a, b, 0), unknown ? X : a ^ b);
            }
        }
        Due.sentence(9, "? with x: the value if both others are like it and not x, else x.");
        for (int a = 0; a <= 2; a++) {
            for (int b = 0; b <= 2; b++) {
                for (int c = 0; c <= 2; c++) {
                    Due.due("? of " + a + b + c, stepped("abc?", a, b, c), chosen(a, b, c));
                }
            }
        }
    }

    private static void neverSilentlyOneOrNought() {
        Due.sentence(9, "Registers are x at first; a wire without a LINE is x.");
        WishToChip x = Due.built("g=a;", "h=a;");
        Due.due("registers", x.step(0, 0), ALL_X);
        for (int name = 0; name <= 18; name++) {
            Due.due("value of " + name, x.value(name), name <= 6 ? 0 : X);
        }
        Due.due("x in each TOKEN by itself", stepped("aa^", X, 0, 0), X);
        Due.due("x in each TOKEN by itself", stepped("aa~|", X, 0, 0), X);
        Due.due("x in each TOKEN by itself", stepped("aa~&", X, 0, 0), X);
        Due.due("0 is none", stepped("0", X, X, X), 0);
        Due.due("1 is none", stepped("1", X, X, X), 1);
        Due.sentence(9, "STEPPED is THE WISH");
        Due.due("THE NET's LINES change no register", Due.built("", "p=0;q=1;").step(0, 0), ALL_X);
    }

    // ---- promise 10

    private static void valuesOfTheLastStep() {
        Due.sentence(10, "A name's value in the last STEP (a register: what it was ahead of it).");
        WishToChip x = Due.built("o=ap^;p=o;s=1;", "");
        x.state(0);
        Due.due("first STEP", x.step(1, 0), 0x41);
        Due.due("name 0", x.value(0), 1);
        Due.due("name 14", x.value(14), 1);
        Due.due("name 15, ahead of it", x.value(15), 0);
        Due.due("name 18, ahead of it", x.value(18), 0);
        Due.due("state is no STEP", x.state(0x10), 0x41);
        Due.due("name 15 still", x.value(15), 0);
        Due.due("name 17 still", x.value(17), 0);
        Due.due("second STEP", x.step(0, 0), 0x50);
        Due.due("name 0", x.value(0), 0);
        Due.due("name 14", x.value(14), 0);
        Due.due("name 17, ahead of it", x.value(17), 1);
        Due.due("name 18: what state told", x.value(18), 0);
        Due.each("value", BAD, x::value, -1, 19);
    }

    private static void noStepSinceBuilt() {
        Due.sentence(10, "NO: there was none since THE WISH was BUILT.");
        WishToChip x = new WishToChip();
        Due.due("a new one", x.value(0), NO);
        x.step(1, 0);
        Due.due("a STEP of an empty WISH", x.value(0), 1);
        x.build(1);
        Due.due("THE NET BUILT", x.value(0), 1);
        Due.put(x, 0, "g");
        Due.due("not BUILT", x.build(0), NO);
        Due.due("a FAULT ends no STEPS", x.value(0), 1);
        x.clear(0);
        Due.due("clear is no build", x.value(0), 1);
        Due.due("BUILT empty", x.build(0), 0);
        Due.due("none since then", x.value(0), NO);
        Due.due("STEPS since then", x.count(8), 0);
        x.step(0, 1);
        Due.due("one since then", x.value(0), X);
    }

    // ---- promise 11

    private static void rowsOfTruth() {
        Due.sentence(11, "ROWS 0 to 1023: bit k (0 to 5) is input k, bit 6 + r register r.");
        for (int bit = 0; bit < 10; bit++) {
            int name = bit < 6 ? bit : 9 + bit;
            WishToChip x = Due.built("g=" + Due.letter(name) + ";", "o=" + Due.letter(name) + "~;");
            for (int row : new int[] {0, 1 << bit, 1023 ^ 1 << bit, 1023}) {
                int due = row >> bit & 1;
                Due.due("name " + name + " in " + row, x.truth(0, name, row), due);
                Due.due("THE WISH's g in " + row, x.truth(0, 6, row), due);
                Due.due("THE NET's o in " + row, x.truth(1, 14, row), 1 - due);
            }
            Due.each("truth in", BAD, v -> x.truth(0, 6, v), -1, 1024, Due.LOW, Due.HIGH);
        }
        WishToChip ends = Due.built("g=" + ALL_AND + ";h=" + ALL_OR + "~;", "");
        for (int k = 0; k < 2; k++) {
            WishToChip x = Due.built("g=" + ALL_AND + ";h=" + ALL_OR + "~;", "");
            for (int row = 0; row < 400; row++) {
                int at = k == 0 ? row : 1023 - row;
                Due.due(k == 0 ? "h in " + at : "g in " + at, x.truth(0, k == 0 ? 7 : 6, at), row == 0 ? 1 : 0);
            }
        }
        Due.due("the last ROW alone", ends.ones(0, 6), 1);
        Due.due("the first ROW alone", ends.ones(0, 7), 1);
    }

    private static void gatesOfTruth() {
        Due.sentence(11, "and ~ (of the value on top), & | ^ (of the two on top), ? (of the three on top: the undermost chooses: 1 the middle one, 0 the topmost)");
        String text = "g=a~;h=ab&;i=ab|;j=ab^;k=abc?;l=abcde??;m=abc?d~e?;n=0;o=1;p=abp?;q=ab~&c|~;";
        for (int view = 0; view < 2; view++) {
            for (int inputs = 0; inputs < 32; inputs++) {
                WishToChip x = Due.built(text, text);
                int a = inputs & 1;
                int b = inputs >> 1 & 1;
                int c = inputs >> 2 & 1;
                int d = inputs >> 3 & 1;
                int e = inputs >> 4 & 1;
                int[] due = {1 - a, a & b, a | b, a ^ b, chosen(a, b, c), chosen(a, b, chosen(c, d, e)),
                    chosen(chosen(a, b, c), 1 - d, e), 0, 1};
                for (int k = 0; k < due.length; k++) Due.due(Due.letter(6 + k) + " by " + inputs, x.truth(view, 6 + k, inputs), due[k]);
                for (int p = 0; p < 2; p++) Due.due("NEXT of p by " + inputs, x.truth(view, 15, inputs | p << 6), chosen(a, b, p));
                Due.due("NEXT of q by " + inputs, x.truth(view, 16, inputs), 1 - (a & 1 - b | c));
            }
        }
    }

    private static void valueWithoutLine() {
        Due.sentence(11, "a wire by its LINE (without one: 0); a register's NEXT by its LINE (without one: as it is)");
        for (int view = 0; view < 2; view++) {
            WishToChip x = Due.built("", "");
            for (int row : new int[] {0, 1023}) {
                for (int name = 0; name <= 18; name++) {
                    boolean wire = name >= 6 && name <= 14;
                    Due.due("name " + name + " in " + row, x.truth(view, name, row), wire || row == 0 ? 0 : 1);
                }
            }
        }
        WishToChip y = Due.built("p=p~;", "p=q;");
        Due.due("NEXT, not what it is", y.truth(0, 15, 0), 1);
        Due.due("NEXT, not what it is", y.truth(0, 15, 64), 0);
        Due.due("NEXT by the other one's LINE", y.truth(1, 15, 64), 0);
        Due.due("NEXT by the other one's LINE", y.truth(1, 15, 128), 1);
    }

    // ---- promise 12

    private static void howManyOnes() {
        Due.sentence(12, "In how many ROWS THE VALUE (NEXT) is 1.");
        WishToChip x = Due.built("g=0;h=1;i=" + ALL_AND + ";j=" + ALL_OR + ";p=0;q=1;", "p=" + ALL_AND + "~;s=s~;");
        Due.due("none", x.ones(0, 6), 0);
        Due.due("all", x.ones(0, 7), 1024);
        Due.due("one", x.ones(0, 8), 1);
        Due.due("all but one", x.ones(0, 9), 1023);
        Due.due("NEXT never", x.ones(0, 15), 0);
        Due.due("NEXT always", x.ones(0, 16), 1024);
        Due.due("NEXT without a LINE", x.ones(0, 17), 512);
        Due.due("NEXT in all but one", x.ones(1, 15), 1023);
        Due.due("NEXT in half of them", x.ones(1, 18), 512);
        for (int name = 0; name < 6; name++) Due.due("input " + name, x.ones(1, name), 512);
        Due.each("ones of name", BAD, v -> x.ones(0, v), -1, 19);
        Due.each("ones by view", BAD, v -> x.ones(v, 0), -1, 2);
    }

    // ---- promises 13, 14

    private static void startOfStates() {
        Due.sentence(13, "STATES that can be: START (0 to 15; 0 at first)");
        WishToChip x = new WishToChip();
        int was = 0;
        for (int v = -2; v <= 17; v++) {
            boolean told = v >= 0 && v <= 15;
            Due.due("start(" + v + ")", x.start(v), told ? was : BAD);
            if (told) was = v;
            Due.due("STATES from " + was, x.states(), 1 << was);
        }
        WishToChip y = Due.built("p=p~;", "");
        for (int v = 0; v <= 15; v++) {
            y.start(v);
            Due.due("bit r is register r, from " + v, y.states(), 1 << v | 1 << (v ^ 1));
        }
        Due.due("state() is no START", y.state(0), ALL_X);
        Due.due("START stays", y.start(0), 15);
    }

    private static void statesThatCanBe() {
        Due.sentence(14, "STATES that can be, as bits.");
        Due.due("the least: START alone", new WishToChip().states(), 1);
        WishToChip fifteen = new WishToChip();
        fifteen.start(15);
        Due.due("bit 15", fifteen.states(), 1 << 15);
        Due.sentence(14, "and each that THE WISH comes to from one of them by some inputs");
        Due.due("START alone", Due.built("p=0;q=0;r=0;s=0;", "").states(), 1);
        Due.due("all", Due.built("p=a;q=b;r=c;s=d;", "").states(), 0xFFFF);
        Due.due("all, one behind the other", Due.built("p=p~;q=qp^;r=rpq&^;s=spqr&&^;", "").states(), 0xFFFF);
        Due.due("by inputs 0 alone", Due.built("p=abcdef|||||~p|;", "").states(), 3);
        Due.due("by inputs 63 alone", Due.built("s=abcdef&&&&&s|;", "").states(), 1 | 1 << 8);
        Due.due("by no inputs", Due.built("p=aa~&;", "").states(), 1);
        Due.due("not THE NET's", Due.built("", "p=a;q=b;r=c;s=d;").states(), 1);
        WishToChip x = Due.built("p=0;q=0;r=0;s=0;", "");
        x.start(15);
        Due.due("START, though nothing comes back to it", x.states(), 1 | 1 << 15);
        WishToChip down = Due.built("p=q;q=r;r=s;s=0;", "");
        down.start(8);
        Due.due("8, 4, 2, 1, 0", down.states(), 1 << 8 | 1 << 4 | 1 << 2 | 1 << 1 | 1);
    }

    // ---- promise 15

    private static void leastRowThatDiffers() {
        Due.sentence(15, "DIFFER at a name (g to s; a register's NEXT): the least ROW with a state that can be, where both VIEWS' VALUES are unlike.");
        for (int name = 6; name <= 18; name++) {
            char n = Due.letter(name);
            WishToChip x = Due.built(n + "=0;", n + "=1;");
            Due.due("ROW 0 at " + n, x.differ(name), 0);
            for (int other = 6; other <= 18; other++) {
                if (other != name) Due.due("alike at " + Due.letter(other), x.differ(other), NONE);
            }
            WishToChip last = Due.built(n + "=" + ALL_AND + ";", n + "=0;");
            last.start(15);
            Due.due("ROW 1023 at " + n, last.differ(name), 1023);
            WishToChip one = Due.built(n + "=a;", "");
            Due.due("a LINE and none at " + n, one.differ(name), 1);
            Due.due("alike at " + n, Due.built(n + "=ab&;", n + "=ba&;").differ(name), NONE);
            Due.due("a wire of 0, a register of itself: as without a LINE", Due.built("", n + "=" + (name < 15 ? "0" : n) + ";").differ(name), NONE);
        }
        WishToChip x = new WishToChip();
        Due.each("differ", BAD, x::differ, 5, 19, -1, 0);
        for (int row = 0; row < 64; row++) {
            WishToChip at = Due.built("g=" + just(row) + ";", "");
            Due.due("just in ROW " + row, at.differ(6), row);
        }
    }

    /** TOKENS that are 1 by these inputs alone. */
    private static String just(int inputs) {
        StringBuilder tokens = new StringBuilder();
        for (int k = 0; k < 6; k++) tokens.append(Due.letter(k)).append((inputs >> k & 1) != 0 ? "" : "~");
        return tokens + "&&&&&";
    }

    private static void onlyStatesThatCanBe() {
        Due.sentence(15, "the least ROW with a state that can be");
        for (int state = 0; state < 16; state++) {
            WishToChip x = Due.built("", "g=1;");
            x.start(state);
            Due.due("the first ROW of state " + state, x.differ(6), 64 * state);
        }
        WishToChip x = Due.built("p=a;q=a~;", "g=pq&;h=p;");
        Due.due("3 can't be", x.differ(6), NONE);
        Due.due("1 can be", x.differ(7), 64);
        x.start(3);
        Due.due("3 can be, as START", x.differ(6), 192);
        WishToChip y = Due.built("", "p=1;g=p;");
        Due.due("what THE NET comes to is none", y.differ(6), NONE);
        Due.due("its NEXT", y.differ(15), 0);
    }

    // ---- promise 16

    private static void touchedNames() {
        Due.sentence(16, "names (g to s) whose VALUE (NEXT) is otherwise in some ROW than THE WISH's as it is BUILT");
        WishToChip none = Due.built("g=ab&;p=g;", "");
        Due.due("the same TEXT", none.touched(), 0);
        StringBuilder all = new StringBuilder();
        for (int name = 6; name <= 18; name++) {
            char n = Due.letter(name);
            all.append(n).append(name < 15 ? "=1;" : "=" + n + "~;");
            WishToChip first = Due.told(0, n + "=" + ALL_OR + "~" + (name < 15 ? "" : n + "^") + ";");
            Due.due("in ROW 0 alone: " + n, first.touched(), 1 << name);
            WishToChip last = Due.told(0, n + "=" + ALL_AND + (name < 15 ? "" : n + "^") + ";");
            Due.due("in ROW 1023 alone: " + n, last.touched(), 1 << name);
        }
        Due.due("all", Due.told(0, all.toString()).touched(), Due.ALL_ENDS);
        WishToChip away = Due.built(all.toString(), "");
        away.clear(0);
        Due.due("an empty late wish", away.touched(), Due.ALL_ENDS);
        Due.due("THE WISH stays as BUILT", away.count(2), 13);
        WishToChip unreached = Due.built("p=0;g=p;", "");
        Due.retell(unreached, 0, "p=0;g=0;");
        Due.due("in a ROW whose state can't be", unreached.touched(), 1 << 6);
        WishToChip net = Due.built("g=a;", "g=b;");
        Due.retell(net, 0, "g=b;");
        Due.due("than THE WISH's, not THE NET's", net.touched(), 1 << 6);
    }

    private static void lateWishesThatMayNotBeBuilt() {
        Due.sentence(16, "NO: it may not be BUILT.");
        WishToChip x = Due.built("g=a;", "");
        for (String text : new String[] {"g", "g=", "g=a", "g=ab;", "g=a;g", "g=g;", "g=h;h=g;", "g=h;", "p=o;"}) {
            Due.retell(x, 0, text);
            Due.due("touched by " + text, x.touched(), NO);
            Due.due("THE WISH stays", x.truth(0, 6, 1), 1);
        }
        Due.retell(x, 0, "");
        Due.due("an empty one may", x.touched(), 1 << 6);
        Due.retell(x, 1, "g=g;");
        Due.due("THE NET's TEXT is not asked", x.touched(), 1 << 6);
    }
}
