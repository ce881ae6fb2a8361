/** Promises 17 to 21: each sentence of the document that names an edge of PRICES, DELAYS, COVERS, ARRIVALS, THE WORST. */
public final class GateEdges {
    private static final int BAD = Due.BAD, NONE = Due.NONE, NO_SLACK = -10000, BAD_WORST = -10001;
    private static final int[] PRICES = {1, 3, 3, 2, 2, 5, 6};
    private static final int[] DELAYS = {1, 2, 2, 1, 1, 3, 3};

    public static void main(String[] args) {
        kinds();
        pricesThatCount();
        delaysThatCount();
        rules();
        coverOfLeaves();
        coverOfGates();
        coverTokenByToken();
        mostCover();
        coverOfNames();
        roundedUp();
        loads();
        arrivalsOfNames();
        slack();
        theWorst();
        theWay();
        theFirstToken();
        theWayEndsAhead();
        Due.end();
    }

    // ---- promise 17

    private static void kinds() {
        Due.sentence(17, "with PRICE (1 to 100; at first 1, 3, 3, 2, 2, 5, 6) and DELAY (1 to 50; at first 1, 2, 2, 1, 1, 3, 3)");
        for (int kind = -1; kind <= 7; kind++) {
            boolean told = kind >= 0 && kind <= 6;
            WishToChip x = new WishToChip();
            int price = told ? PRICES[kind] : BAD;
            int delay = told ? DELAYS[kind] : BAD;
            for (int v = -1; v <= 102; v++) {
                boolean isPrice = told && v >= 1 && v <= 100;
                Due.due("PRICE " + v + " of " + kind, x.gate(kind, 0, v), isPrice ? price : BAD);
                if (isPrice) price = v;
                boolean isDelay = told && v >= 1 && v <= 50;
                Due.due("DELAY " + v + " of " + kind, x.gate(kind, 1, v), isDelay ? delay : BAD);
                if (isDelay) delay = v;
            }
            for (int other = 0; other <= 6; other++) {
                Due.due("PRICE of " + other, x.gate(other, 0, 9), other == kind ? 100 : PRICES[other]);
                Due.due("DELAY of " + other, x.gate(other, 1, 9), other == kind ? 50 : DELAYS[other]);
            }
        }
        WishToChip y = new WishToChip();
        Due.each("gate(0, .., 1)", BAD, v -> y.gate(0, v, 1), -1, 2, Due.LOW, Due.HIGH);
    }

    private static void pricesThatCount() {
        Due.sentence(17, "KINDS of gates: 0 ~ , 1 & , 2 | , 3 & then ~ , 4 | then ~ , 5 ^ , 6 ? ;");
        String[] lines = {"a~", "ab&", "ab|", "ab&~", "ab|~", "ab^", "abc?"};
        for (int kind = 0; kind <= 6; kind++) {
            WishToChip x = Due.built("g=" + lines[kind] + ";", "");
            for (int other = 0; other <= 6; other++) x.gate(other, 0, 100);
            Due.due("all at 100: " + lines[kind], x.cover(0, 6), 100);
            x.gate(kind, 0, 1);
            Due.due("at 1: " + lines[kind], x.cover(0, 6), 1);
            x.gate(kind, 0, 99);
            Due.due("at 99: " + lines[kind], x.cover(0, 6), 99);
        }
    }

    private static void delaysThatCount() {
        Due.sentence(17, "by gates as its TOKENS are (0, 1, 2, 5, 6)");
        String[] lines = {"a~", "ab&", "ab|", "", "", "ab^", "abc?"};
        for (int kind : new int[] {0, 1, 2, 5, 6}) {
            WishToChip x = Due.built("g=" + lines[kind] + ";", "");
            for (int other = 0; other <= 6; other++) x.gate(other, 1, other == kind ? 1 : 50);
            Due.due("1: " + lines[kind], x.arrival(0, 6, 0), 1);
            for (int other = 0; other <= 6; other++) x.gate(other, 1, other == kind ? 50 : 1);
            Due.due("50: " + lines[kind], x.arrival(0, 6, 0), 50);
        }
        WishToChip y = Due.built("g=ab&~;h=ab|~;", "");
        y.gate(3, 1, 50);
        y.gate(4, 1, 50);
        Due.due("never by gate 3", y.arrival(0, 6, 0), 3);
        Due.due("never by gate 4", y.arrival(0, 7, 0), 3);
    }

    // ---- promise 18

    private static void rules() {
        Due.sentence(18, "CORNERS 0 to 2 have a FACTOR (50 to 300; at first 100, 80, 130).");
        dueRules(new int[] {0, 1, 2}, 50, 300);
        Due.sentence(18, "LOAD (0 to 9; 1 at first)");
        dueRules(new int[] {3}, 0, 9);
        Due.sentence(18, "CLOCK (1 to 500; 20 at first)");
        dueRules(new int[] {4}, 1, 500);
        Due.sentence(18, "FACTOR of a CORNER (what 0 to 2), LOAD (3), CLOCK (4): what it was.");
        WishToChip x = new WishToChip();
        for (int v : new int[] {1, 5, 50, 100}) Due.each("rule(.., " + v + ")", BAD, what -> x.rule(what, v), -1, 5, 6, Due.LOW, Due.HIGH);
    }

    private static void dueRules(int[] whats, int least, int most) {
        int[] first = {100, 80, 130, 1, 20};
        for (int what : whats) {
            WishToChip x = new WishToChip();
            Due.due("rule " + what + " at first", x.rule(what, least), first[what]);
            Due.due("the first one below", x.rule(what, least - 1), BAD);
            Due.due("the least", x.rule(what, most), least);
            Due.due("the first one above", x.rule(what, most + 1), BAD);
            Due.each("far off", BAD, v -> x.rule(what, v), Due.LOW, Due.HIGH, -1000, 1000);
            Due.due("the greatest", x.rule(what, least + 1), most);
            Due.due("what it was", x.rule(what, most - 1), least + 1);
            for (int other = 0; other < 5; other++) {
                if (other != what) Due.due("rule " + other, x.rule(other, first[other]), first[other]);
            }
        }
    }

    // ---- promise 19

    private static int cover(String tokens, int... prices) {
        WishToChip x = Due.built("g=" + tokens + ";", "");
        for (int kind = 0; kind < prices.length; kind++) x.gate(kind, 0, prices[kind]);
        return x.cover(0, 6);
    }

    private static void coverOfLeaves() {
        Due.sentence(19, "of a name as it is for 0, turned for a gate ~ ; of 0, 1 both for 0;");
        for (char leaf : "abcdefpqrs".toCharArray()) {
            Due.due("" + leaf, cover("" + leaf), 0);
            Due.due(leaf + " turned", cover(leaf + "~"), 1);
            Due.due(leaf + " turned at 100", cover(leaf + "~", 100, 1, 1, 1, 1, 1, 1), 100);
        }
        Due.each("0, 1", 0, v -> cover(v + "", 100), 0, 1);
        Due.each("0, 1 turned", 0, v -> cover(v + "~", 100), 0, 1);
        Due.due("& of 0 turned and 1 turned: just gate 3 or 2", cover("01&~", 100, 9, 8, 7, 6, 5, 4), 7);
        Due.sentence(19, "of ~ turned what it is of, as it is that turned;");
        for (int many = 0; many <= 196; many++) {
            WishToChip x = Due.told(0, "g=a" + "~".repeat(many) + ";");
            x.build(0);
            Due.due(many + " times turned", x.cover(0, 6), many % 2);
        }
    }

    private static void coverOfGates() {
        Due.sentence(19, "of & as it is by gate 1 of both, or gate 4 of both turned; turned by gate 3 of both, or 2 of both turned;");
        Due.due("1 at 3, 4 with two ~ at 4", cover("ab&", 1, 3, 100, 100, 2), 3);
        Due.due("1 at 5, 4 with two ~ at 4", cover("ab&", 1, 5, 100, 100, 2), 4);
        Due.due("turned: 3 at 4, 2 with two ~ at 5", cover("ab&~", 1, 100, 3, 4, 100), 4);
        Due.due("turned: 3 at 6, 2 with two ~ at 5", cover("ab&~", 1, 100, 3, 6, 100), 5);
        Due.sentence(19, "of | as it is by 2 of both, or 3 of both turned; turned by 4 of both, or 1 of both turned;");
        Due.due("2 at 3, 3 with two ~ at 4", cover("ab|", 1, 100, 3, 2, 100), 3);
        Due.due("2 at 5, 3 with two ~ at 4", cover("ab|", 1, 100, 5, 2, 100), 4);
        Due.due("turned: 4 at 4, 1 with two ~ at 5", cover("ab|~", 1, 3, 100, 100, 4), 4);
        Due.due("turned: 4 at 6, 1 with two ~ at 5", cover("ab|~", 1, 3, 100, 100, 6), 5);
        Due.sentence(19, "of ^ by gate 5: as it is of both, or of both turned; turned of one of them turned;");
        Due.due("of both", cover("ab^", 9), 5);
        Due.due("of both turned", cover("a~b~^", 9), 5);
        Due.due("turned of the first turned", cover("a~b^~", 9), 5);
        Due.due("turned of the second turned", cover("ab~^~", 9), 5);
        Due.due("turned of neither: a gate ~", cover("ab^~", 9), 14);
        Due.sentence(19, "of ? by gate 6, the one that chooses as it is or turned; as it is of both others, turned of both turned;");
        Due.due("as it is", cover("abc?", 9), 6);
        Due.due("the one that chooses turned", cover("a~bc?", 9), 6);
        Due.due("both others turned, and turned", cover("ab~c~?~", 9), 6);
        Due.due("one of the others turned", cover("ab~c?", 9), 15);
        Due.sentence(19, "and each way also by the other one and a gate ~ .");
        Due.due("& by 3 and ~", cover("ab&", 1, 100, 100, 2, 100), 3);
        Due.due("& by 1 rather, if it costs as much", cover("ab&", 1, 3, 100, 2, 100), 3);
        Due.due("& then ~ by 1 and ~", cover("ab&~", 1, 2, 100, 100, 100), 3);
        Due.due("? then ~ by a gate ~", cover("abc?~", 9), 15);
        Due.sentence(19, "No gate serves two TOKENS.");
        Due.due("the same twice", cover("ab&ab&^", 1, 3, 100, 100, 100, 5), 11);
        Due.due("a wire twice is no gate", Due.built("g=ab&;h=gg^;", "").cover(0, 7), 5);
    }

    /** By the document's words, for one value as it is and turned. */
    private static int[] covered(String tokens, int[] price) {
        int[][] stack = new int[10][];
        int size = 0;
        for (char token : tokens.toCharArray()) {
            int takes = token == '?' ? 3 : token == '~' ? 1 : "&|^".indexOf(token) >= 0 ? 2 : 0;
            size -= takes;
            int[] a = takes > 0 ? stack[size] : null;
            int[] b = takes > 1 ? stack[size + 1] : null;
            int[] c = takes > 2 ? stack[size + 2] : null;
            stack[size++] = orByTheOther(price[0], coveredToken(token, price, a, b, c));
        }
        return stack[0];
    }

    private static int[] coveredToken(char token, int[] price, int[] a, int[] b, int[] c) {
        switch (token) {
            case '~': return new int[] {a[1], a[0]};
            case '&': return new int[] {Math.min(price[1] + a[0] + b[0], price[4] + a[1] + b[1]),
                Math.min(price[3] + a[0] + b[0], price[2] + a[1] + b[1])};
            case '|': return new int[] {Math.min(price[2] + a[0] + b[0], price[3] + a[1] + b[1]),
                Math.min(price[4] + a[0] + b[0], price[1] + a[1] + b[1])};
            case '^': return new int[] {price[5] + Math.min(a[0] + b[0], a[1] + b[1]),
                price[5] + Math.min(a[0] + b[1], a[1] + b[0])};
            case '?': return new int[] {price[6] + Math.min(a[0], a[1]) + b[0] + c[0],
                price[6] + Math.min(a[0], a[1]) + b[1] + c[1]};
            default: return new int[] {0, token == '0' || token == '1' ? 0 : price[0]};
        }
    }

    private static int[] orByTheOther(int turn, int[] both) {
        return new int[] {Math.min(both[0], both[1] + turn), Math.min(both[1], both[0] + turn)};
    }

    private static void coverTokenByToken() {
        Due.sentence(19, "THE COVER of a LINE: the least PRICE of gates by which its value is made, TOKEN by TOKEN, each as it is or turned (by ~):");
        int[][] prices = {PRICES, {1, 1, 1, 1, 1, 1, 1}, {100, 100, 100, 100, 100, 100, 100}, {1, 100, 100, 2, 100, 5, 6},
            {1, 100, 100, 100, 2, 5, 6}, {1, 2, 100, 100, 100, 5, 6}, {1, 100, 2, 100, 100, 5, 6}, {100, 9, 8, 7, 6, 5, 4},
            {9, 4, 4, 8, 8, 1, 1}};
        String[] values = {"a", "b~", "0", "ab&", "ab|~", "cd^", "a~b&", "cde?", "f~cd~?"};
        for (int[] price : prices) {
            for (String one : values) {
                for (String other : values) {
                    for (String gate : new String[] {"&", "|", "^", "e?", "e~?"}) {
                        String tokens = one + other + gate;
                        Due.due("cover of " + tokens, cover(tokens, price), covered(tokens, price)[0]);
                        Due.due("cover of it turned", cover(tokens + "~", price), covered(tokens, price)[1]);
                    }
                }
            }
        }
    }

    private static void mostCover() {
        Due.sentence(19, "with PRICE (1 to 100;");
        String most = "g=a" + "a&".repeat(98) + ";";
        WishToChip x = Due.built(most, "");
        for (int kind = 0; kind <= 6; kind++) x.gate(kind, 0, 100);
        Due.due("98 gates at 100", x.cover(0, 6), 9800);
        Due.due("all LINES", x.cover(0, -1), 9800);
        for (int kind = 0; kind <= 6; kind++) x.gate(kind, 0, 1);
        Due.due("98 gates at 1", x.cover(0, 6), 98);
    }

    private static void coverOfNames() {
        Due.sentence(19, "THE COVER of a LINE; name = -1: of all LINES of a VIEW together. NONE: it has no LINE; BAD (names -1, 6 to 18).");
        WishToChip x = Due.built("g=ab&;s=ab^;", "h=a~;r=abc?;p=0;");
        for (int name = -3; name <= 21; name++) {
            boolean told = name == -1 || name >= 6 && name <= 18;
            int inWish = name == -1 ? 8 : name == 6 ? 3 : name == 18 ? 5 : NONE;
            int inNet = name == -1 ? 7 : name == 7 ? 1 : name == 17 ? 6 : name == 15 ? 0 : NONE;
            Due.due("cover(0, " + name + ")", x.cover(0, name), told ? inWish : BAD);
            Due.due("cover(1, " + name + ")", x.cover(1, name), told ? inNet : BAD);
        }
        Due.each("cover(.., -1)", BAD, v -> x.cover(v, -1), -1, 2);
        Due.due("of all of none", new WishToChip().cover(1, -1), 0);
        StringBuilder all = new StringBuilder();
        for (int name = 6; name <= 18; name++) all.append(Due.letter(name)).append("=a~;");
        Due.due("of all thirteen", Due.built(all.toString(), "").cover(0, -1), 13);
    }

    // ---- promise 20

    private static void roundedUp() {
        Due.sentence(20, "A gate takes DELAY times FACTOR by 100, rounded up.");
        for (int delay = 1; delay <= 50; delay++) {
            for (int corner = 0; corner <= 2; corner++) {
                WishToChip x = Due.built("g=a~;", "");
                x.gate(0, 1, delay);
                for (int factor = 50 + corner; factor <= 300; factor += 3) {
                    x.rule(corner, factor);
                    int hundredths = delay * factor;
                    int due = hundredths % 100 == 0 ? hundredths / 100 : hundredths / 100 + 1;
                    Due.due(delay + " by " + factor, x.arrival(0, 6, corner), due);
                }
                x.rule(corner, 50);
                Due.due(delay + " by 50", x.arrival(0, 6, corner), (delay + 1) / 2);
                x.rule(corner, 300);
                Due.due(delay + " by 300", x.arrival(0, 6, corner), delay * 3);
            }
        }
        WishToChip each = Due.built("g=a~~;", "");
        each.rule(0, 50);
        Due.due("each gate by itself: a half and a half are 2", each.arrival(0, 6, 0), 2);
        Due.each("arrival at", BAD, v -> each.arrival(0, 6, v), -1, 3);
        Due.due("corner 1 at first: 0.8 and 0.8", each.arrival(0, 6, 1), 2);
        Due.due("corner 2 at first: 1.3 and 1.3", each.arrival(0, 6, 2), 4);
        WishToChip most = Due.built("g=a" + "~".repeat(196) + ";", "");
        most.gate(0, 1, 50);
        most.rule(2, 300);
        Due.due("196 gates of 150", most.arrival(0, 6, 2), 29400);
    }

    private static void loads() {
        Due.sentence(20, "and LOAD (0 to 9; 1 at first) for each TOKEN of all LINES of the VIEW that is this name (a register's LINE: of none)");
        for (int uses = 0; uses <= 5; uses++) {
            String used = uses == 0 ? "p=0;" : "p=g" + "g&".repeat(uses - 1) + ";";
            WishToChip x = Due.built("g=a;" + used, "g=a;h=gg&;");
            Due.due(uses + " by 1", x.arrival(0, 6, 0), uses);
            for (int load = 0; load <= 9; load++) {
                x.rule(3, load);
                Due.due(uses + " by " + load, x.arrival(0, 6, 0), uses * load);
            }
            Due.each("LOAD", BAD, v -> x.rule(3, v), -1, 10);
            Due.due("still by 9", x.arrival(0, 6, 0), uses * 9);
            Due.due("in THE NET two", x.arrival(1, 6, 0), 18);
        }
        WishToChip registers = Due.built("p=a;q=pp&p&;", "");
        registers.rule(3, 9);
        Due.due("a register's LINE: of none", registers.arrival(0, 15, 0), 0);
        Due.due("a register as a TOKEN comes at 0", registers.arrival(0, 16, 0), 4);
        WishToChip most = Due.built("g=0;h=g" + "g&".repeat(96) + ";", "");
        most.rule(3, 9);
        Due.due("97 TOKENS of 9", most.arrival(0, 6, 0), 873);
        Due.due("behind them 96 gates", most.arrival(0, 7, 0), 873 + 192);
    }

    private static void arrivalsOfNames() {
        Due.sentence(20, "ARRIVAL of a name (a register: of its LINE; without one 0) at a CORNER.");
        WishToChip x = Due.built("g=a~;o=g~;p=o~;s=ab^;", "q=p~;");
        for (int name = -2; name <= 20; name++) {
            int inWish = name == 6 ? 2 : name == 14 ? 4 : name == 15 ? 5 : name == 18 ? 3 : 0;
            int inNet = name == 16 ? 1 : 0;
            boolean told = name >= 0 && name <= 18;
            Due.due("arrival(0, " + name + ", 0)", x.arrival(0, name, 0), told ? inWish : BAD);
            Due.due("arrival(1, " + name + ", 0)", x.arrival(1, name, 0), told ? inNet : BAD);
        }
        Due.sentence(20, "a TOKEN's is the greatest of what it takes and the gate's");
        WishToChip y = Due.built("g=a~b&;h=ab~&;i=a~bc?;j=ab~c?;k=abc~?;l=a~~b~c?;", "");
        Due.due("the first", y.arrival(0, 6, 0), 3);
        Due.due("the second", y.arrival(0, 7, 0), 3);
        Due.due("the one that chooses", y.arrival(0, 8, 0), 4);
        Due.due("the middle one", y.arrival(0, 9, 0), 4);
        Due.due("the topmost", y.arrival(0, 10, 0), 4);
        Due.due("the greatest of two", y.arrival(0, 11, 0), 5);
        WishToChip behind = Due.built("g=abcd^^^;h=abcd~~~~&&&;i=a~;j=ab|;k=abc?;l=ab&c&;", "");
        Due.due("by no more than ~ takes", behind.arrival(0, 8, 0), 1);
        Due.due("by no more than | takes", behind.arrival(0, 9, 0), 2);
        Due.due("by no more than ? takes", behind.arrival(0, 10, 0), 3);
        Due.due("by no more than & and & take", behind.arrival(0, 11, 0), 4);
        Due.sentence(20, "of inputs, registers 0");
        for (int name = 0; name < 6; name++) Due.due("input " + name, y.arrival(0, name, 0), 0);
        WishToChip used = Due.built("p=ab^c^;q=p~;", "");
        Due.due("p's LINE", used.arrival(0, 15, 0), 6);
        Due.due("p as a TOKEN", used.arrival(0, 16, 0), 1);
    }

    // ---- promise 21

    private static void slack() {
        Due.sentence(21, "SLACK of a LINE: CLOCK (1 to 500; 20 at first) less its ARRIVAL.");
        Due.due("at first", Due.built("g=ab&;", "").worst(0, 0, -2), 18);
        Due.due("LOAD is of its ARRIVAL", Due.built("g=ab&;p=gg&;h=gg|;q=h~;", "").worst(0, 0, -2), 20 - 10);
        Due.sentence(21, "its SLACK (i = -2: it may be below 0; NONE -10000)");
        WishToChip x = Due.built("p=ab^c^d^;", "");
        for (int clock = 1; clock <= 20; clock++) {
            x.rule(4, clock);
            Due.due("SLACK at " + clock, x.worst(0, 0, -2), clock - 9);
        }
        x.rule(4, 500);
        Due.due("SLACK at 500", x.worst(0, 0, -2), 491);
        Due.due("by THE NET, which has no LINE", x.worst(1, 0, -2), NO_SLACK);
        WishToChip most = Due.built("s=a" + "~".repeat(196) + ";", "s=0;");
        most.gate(0, 1, 50);
        most.rule(0, 300);
        most.rule(4, 1);
        Due.due("the least of all", most.worst(0, 0, -2), 1 - 29400);
        Due.due("at CLOCK 1 a LINE of 0", most.worst(1, 0, -2), 1);
        most.rule(4, 500);
        Due.due("the greatest of all", most.worst(1, 0, -2), 500);
        WishToChip numbers = Due.built("p=a" + "~".repeat(134) + ";", "");
        numbers.gate(0, 1, 50);
        numbers.rule(0, 150);
        numbers.rule(4, 50);
        Due.due("just what NONE answers", numbers.worst(0, 0, -2), 50 - 10050);
        Due.due("but there is one", numbers.worst(0, 0, -1), 15);
        numbers.rule(4, 49);
        Due.due("just what BAD answers", numbers.worst(0, 0, -2), BAD_WORST);
    }

    private static void theWorst() {
        Due.sentence(21, "THE WORST: the LINE of least SLACK, the lowest of several.");
        StringBuilder all = new StringBuilder();
        for (int name = 18; name >= 6; name--) {
            all.append(Due.letter(name)).append("=a~;");
            WishToChip x = Due.built(all.toString(), "");
            Due.due("of several from " + name + " on", x.worst(0, 0, -1), name);
            Due.due("its SLACK", x.worst(0, 0, -2), 19);
            for (int later = name; later <= 18; later++) {
                String text = all.toString().replace(Due.letter(later) + "=a~;", Due.letter(later) + "=a~~;");
                Due.due("one that is later", Due.built(text, "").worst(0, 0, -1), later);
            }
        }
        Due.sentence(21, "THE WORST at a CORNER: the name (i = -1)");
        WishToChip corners = Due.built("g=ab&;h=a~~;", "h=a;");
        Due.due("at corner 0 alike", corners.worst(0, 0, -1), 6);
        corners.rule(1, 50);
        Due.due("at corner 1, of a half each", corners.worst(0, 1, -1), 7);
        corners.rule(2, 101);
        Due.due("at corner 2, of 1.01 each", corners.worst(0, 2, -1), 7);
        Due.due("of THE NET", corners.worst(1, 2, -1), 7);
        Due.each("worst at", BAD_WORST, v -> corners.worst(0, v, -1), -1, 3);
        Due.each("worst by", BAD_WORST, v -> corners.worst(v, 0, -1), -1, 2);
        Due.due("a LINE of 0 alone", Due.built("o=0;", "").worst(0, 0, -1), 14);
    }

    private static void dueWay(String text, String letters) {
        WishToChip x = Due.built("", text);
        Due.due("worst of " + text, x.worst(1, 0, -1), Due.name(letters.charAt(0)));
        for (int i = 0; i < letters.length(); i++) {
            Due.due("name " + i + " of " + letters, x.worst(1, 0, i), Due.name(letters.charAt(i)));
        }
        for (int i = letters.length(); i < 20; i++) Due.due("name " + i + " of " + letters, x.worst(1, 0, i), NONE);
        Due.each("far behind", NONE, v -> x.worst(1, 0, v), 199, 200, 1000, Due.HIGH);
        Due.each("ahead of SLACK", BAD_WORST, v -> x.worst(1, 0, v), -3, -4, Due.LOW);
    }

    private static void theWay() {
        Due.sentence(21, "else the i-th name of THE WAY (0: the name itself). NONE; BAD answers -10001.");
        dueWay("g=0;", "g");
        dueWay("g=a;", "ga");
        dueWay("p=p;", "pp");
        dueWay("s=s~;", "ss");
        dueWay("g=f;p=g;", "gf");
        dueWay("g=f;p=g~;", "pgf");
        dueWay("s=g~;g=h~;h=i~;i=j~;j=k~;k=l~;l=m~;m=n~;n=o~;o=s~;", "sghijklmnos");
        dueWay("s=o~;o=n~;n=m~;m=l~;l=k~;k=j~;j=i~;i=h~;h=g~;g=0~;", "sonmlkjihg");
        Due.sentence(21, "if that is a wire from there on, ending at an input or a register");
        dueWay("p=q~;q=a;", "pq");
        dueWay("p=q~;q=p~;", "pq");
        dueWay("g=p~~;p=g~;q=a;", "pgp");
        dueWay("h=qa&;q=h~;", "qhq");
    }

    private static void theFirstToken() {
        Due.sentence(21, "then the name of the TOKEN (a name) by which its greatest comes (of several the first TOKEN)");
        for (String gate : new String[] {"&", "|", "^"}) {
            dueWay("p=ab" + gate + ";", "pa");
            dueWay("p=ba" + gate + ";", "pb");
            dueWay("p=ab~" + gate + ";", "pb");
            dueWay("p=a~b~" + gate + ";", "pa");
        }
        dueWay("p=abc?;", "pa");
        dueWay("p=ab~c?;", "pb");
        dueWay("p=abc~?;", "pc");
        dueWay("p=ab~c~?;", "pb");
        dueWay("p=a~bc~?;", "pa");
        dueWay("p=abcdefpqrs&&&&&&&&&;", "pr");
        dueWay("p=ab&c&d&e&f&;", "pa");
        dueWay("g=ab&;h=cd&;p=gh&;", "pga");
        dueWay("g=ab&;h=cd&;p=hg&;", "phc");
        dueWay("g=a;h=b;p=gh&;q=h;", "phb");
        dueWay("g=a~;h=b;p=hg&;q=h;", "phb");
    }

    private static void theWayEndsAhead() {
        Due.sentence(21, "at 0, 1 it ends ahead of these");
        dueWay("p=0;", "p");
        dueWay("p=1~;", "p");
        dueWay("p=01&;", "p");
        dueWay("p=a0&;", "pa");
        dueWay("p=0a~&;", "pa");
        dueWay("p=a1~&;", "p");
        dueWay("g=1;p=g~;", "pg");
        dueWay("g=0~;h=g~;p=h~;", "phg");
    }
}
