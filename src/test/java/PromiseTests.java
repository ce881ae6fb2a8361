/** Each promise of the document by itself: what it says, the edges that it names, and wrong inputs. */
public final class PromiseTests {
    private static final int BAD = WishToChip.BAD, NO = WishToChip.NO, FULL = WishToChip.FULL, NONE = WishToChip.NONE;
    private static final int ALL_ENDS = 0x7FFC0;
    private static final int LOW = Integer.MIN_VALUE, HIGH = Integer.MAX_VALUE;

    private static int checked = 0;
    private static int wrong = 0;
    private static int promise = 0;

    private static void due(String call, int got, int want) {
        checked++;
        if (got != want) {
            wrong++;
            System.out.println("promise " + promise + ": " + call + " answered " + got + ", due is " + want);
        }
    }

    /** Each of these numbers in that place must be refused. */
    private interface Call {
        int with(int v);
    }

    private static void refused(String call, int answer, Call one, int... numbers) {
        for (int v : numbers) due(call + " with " + v, one.with(v), answer);
    }

    private static int name(char letter) {
        return letter - 'a';
    }

    private static int bits(String letters) {
        int bits = 0;
        for (char letter : letters.toCharArray()) bits |= 1 << name(letter);
        return bits;
    }

    private static void put(WishToChip x, int view, String text) {
        for (char sign : text.toCharArray()) x.write(view, 1, sign);
    }

    private static WishToChip text(int view, String text) {
        WishToChip x = new WishToChip();
        put(x, view, text);
        return x;
    }

    private static void rebuild(WishToChip x, int view, String text) {
        x.clear(view);
        put(x, view, text);
        due("build of " + text, x.build(view), text.length() - text.replace(";", "").length());
    }

    private static WishToChip built(String wish, String net) {
        WishToChip x = new WishToChip();
        rebuild(x, 0, wish);
        rebuild(x, 1, net);
        return x;
    }

    private static int faultOf(String text) {
        int inWish = text(0, text).fault(0);
        due("fault of the same TEXT as THE NET's: " + text, text(1, text).fault(1), inWish);
        return inWish;
    }

    public static void main(String[] args) {
        Runnable[] tests = {
            PromiseTests::newObject, PromiseTests::write, PromiseTests::clear, PromiseTests::fault, PromiseTests::ring,
            PromiseTests::build, PromiseTests::line, PromiseTests::state, PromiseTests::step, PromiseTests::value,
            PromiseTests::truth, PromiseTests::ones, PromiseTests::start, PromiseTests::states, PromiseTests::differ,
            PromiseTests::touched, PromiseTests::gate, PromiseTests::rule, PromiseTests::cover, PromiseTests::arrival,
            PromiseTests::worst, PromiseTests::block, PromiseTests::net, PromiseTests::place, PromiseTests::wire,
            PromiseTests::least, PromiseTests::swap, PromiseTests::ends, PromiseTests::fails, PromiseTests::finds,
            PromiseTests::trial, PromiseTests::noTrials, PromiseTests::fewest, PromiseTests::see, PromiseTests::could,
            PromiseTests::parts, PromiseTests::keep, PromiseTests::back, PromiseTests::count
        };
        for (Runnable test : tests) {
            promise++;
            int before = checked;
            test.run();
            if (checked == before) {
                wrong++;
                System.out.println("promise " + promise + ": nothing was checked");
            }
        }
        System.out.println(tests.length + " promises, " + checked + " answers checked, " + wrong + " wrong");
        if (wrong != 0) System.exit(1);
    }

    // ---- texts

    private static void newObject() {
        WishToChip x = new WishToChip();
        for (int what = 0; what <= 8; what++) due("count(" + what + ")", x.count(what), 0);
        due("fault", x.fault(0), NONE);
        due("state", x.state(0), 0xAA);
        due("start", x.start(0), 0);
        due("ends", x.ends(0), ALL_ENDS);
        due("states", x.states(), 1);
        due("value", x.value(0), NO);
        due("line", x.line(1, name('g'), 0), NONE);
        due("back", x.back(), NO);
        due("wire", x.wire(-1), 0);
        WishToChip y = text(0, "g=a;");
        y.build(0);
        y.block();
        due("another object's bytes", x.count(0), 0);
        due("another object's BLOCKS", x.count(4), 0);
    }

    private static void write() {
        WishToChip x = new WishToChip();
        due("write of eight", x.write(0, 8, 0x673D61623B000000L >> 24), 8);
        due("its highest byte comes first", x.fault(0), 0);
        x.clear(0);
        due("write of five, those above them left out", x.write(0, 5, 0x7777673D6162267FL >> 8), 5);
        due("fault: the end", x.fault(0), 5);
        due("write behind it", x.write(0, 1, ';'), 6);
        due("fault", x.fault(0), NONE);
        due("write to the other TEXT", x.write(1, 1, -1L), 1);
        due("byte 255 stands nowhere", x.fault(1), 0);
        WishToChip y = new WishToChip();
        refused("write to view", BAD, v -> y.write(v, 1, 97), -1, 2, LOW, HIGH);
        refused("write of n", BAD, v -> y.write(0, v, 97), 0, 9, -1, LOW, HIGH);
        for (int k = 1; k <= 24; k++) due("write", y.write(0, 8, k), 8 * k);
        due("write of 7", y.write(0, 7, 0), 199);
        due("one too many", y.write(0, 2, 0), FULL);
        due("nothing changed", y.count(0), 199);
        due("the last one", y.write(0, 1, 0), 200);
        due("no more", y.write(0, 1, 0), FULL);
        due("BAD goes ahead of FULL", y.write(0, 9, 0), BAD);
        due("the other TEXT has its own room", y.write(1, 8, 0), 8);
    }

    private static void clear() {
        WishToChip x = built("g=ab&;", "h=a;p=h;");
        due("clear", x.clear(0), 6);
        due("clear again", x.clear(0), 0);
        due("bytes", x.count(0), 0);
        due("the other TEXT stays", x.count(1), 8);
        due("THE WISH stays as BUILT", x.count(2), 1);
        due("clear of the other", x.clear(1), 8);
        refused("clear", BAD, x::clear, -1, 2, LOW, HIGH);
    }

    private static void fault() {
        due("empty", faultOf(""), NONE);
        due("every letter, sign and number", faultOf("g=abcdef&&&&&;s=ghijklmno&|^~&|^&|;p=qrs01?^^;"), NONE);
        due("just a letter: the end", faultOf("g"), 1);
        due("the end behind =", faultOf("g="), 2);
        due("the end behind a TOKEN", faultOf("g=a"), 3);
        due("an input is no LINE's", faultOf("f=a;"), 0);
        due("t is none", faultOf("t=a;"), 0);
        due("s is one", faultOf("s=a;"), NONE);
        due("no =", faultOf("gg=a;"), 1);
        due("told twice", faultOf("g=a;h=a;g=b;"), 8);
        due("told twice, the end", faultOf("g=a;g"), 4);
        due("no TOKEN", faultOf("g=;"), 2);
        due("two values", faultOf("g=ab;"), 4);
        due("~ of nothing", faultOf("g=~;"), 2);
        due("~ of one", faultOf("g=a~;"), NONE);
        due("& of one", faultOf("g=a&;"), 3);
        due("| of one", faultOf("g=a|;"), 3);
        due("^ of one", faultOf("g=a^;"), 3);
        due("? of two", faultOf("g=ab?;"), 4);
        due("? of three", faultOf("g=abc?;"), NONE);
        due("values of the LINE ahead are gone", faultOf("g=a;h=b&;"), 7);
        due("t as a TOKEN", faultOf("g=t;"), 2);
        due("2 as a TOKEN", faultOf("g=2;"), 2);
        due("= as a TOKEN", faultOf("g==a;"), 2);
        due("a gap between LINES", faultOf("g=a; h=a;"), 4);
        due("; between LINES", faultOf("g=a;;"), 4);
        due("ten values", faultOf("g=aaaaaaaaaa&&&&&&&&&;"), NONE);
        due("eleven values", faultOf("g=aaaaaaaaaaa&&&&&&&&&&;"), 12);
        due("eleven values by 0", faultOf("g=aaaaaaaaaa0"), 12);
        due("ten and ~", faultOf("g=aaaaaaaaaa~&&&&&&&&&;"), NONE);
        due("200 bytes", faultOf("g=a" + "~".repeat(196) + ";"), NONE);
        due("200 bytes without an end", faultOf("g=a" + "~".repeat(197)), 200);
        refused("fault", BAD, v -> text(0, "g").fault(v), -1, 2, LOW, HIGH);
        WishToChip x = text(0, "g=a" + "~".repeat(196) + ";");
        for (int k = 0; k < 5; k++) due("read again and again", x.fault(0), NONE);
    }

    private static int ringOf(String text, int what) {
        int inWish = text(0, text).ring(0, what);
        due("ring of the same TEXT as THE NET's: " + text, text(1, text).ring(1, what), inWish);
        return inWish;
    }

    private static void ring() {
        due("none", ringOf("g=ab&;", 0), NONE);
        due("none, empty", ringOf("", 0), NONE);
        due("itself", ringOf("g=ga&;", 0), name('g'));
        due("two", ringOf("o=n;n=o~;", 0), name('n'));
        due("the least leads to a ring, but is in none", ringOf("g=h;h=i;i=h;", 0), name('h'));
        due("all nine", ringOf("g=h;h=i;i=j;j=k;k=l;l=m;m=n;n=o;o=g;", 0), name('g'));
        due("all nine in line", ringOf("g=h;h=i;i=j;j=k;k=l;l=m;m=n;n=o;o=a;", 0), NONE);
        due("a register parts it", ringOf("g=p;p=g;", 0), NONE);
        due("a register on itself", ringOf("p=p;", 0), NONE);
        due("a ring beside a lack", ringOf("h=hg&;", 0), name('h'));
        due("lack", ringOf("h=hg&;", 1), name('g'));
        due("the least lack", ringOf("p=onm&&;", 1), name('m'));
        due("no lack", ringOf("p=onm&&;m=a;n=a;o=a;", 1), NONE);
        due("registers never lack", ringOf("g=pqrs&&&;", 1), NONE);
        due("none lacks, empty", ringOf("", 1), NONE);
        due("a FAULT", ringOf("g=g;h", 0), NO);
        due("a FAULT", ringOf("g=h;h", 1), NO);
        WishToChip x = text(0, "g=g");
        refused("ring of view", BAD, v -> x.ring(v, 0), -1, 2, LOW, HIGH);
        refused("ring, BAD goes ahead of NO", BAD, v -> x.ring(0, v), -1, 2, LOW, HIGH);
        WishToChip y = built("g=a;", "");
        put(y, 0, "h=h;");
        due("of THE TEXT, not of the VIEW", y.ring(0, 0), name('h'));
    }

    private static void build() {
        WishToChip x = text(0, "g=ab&;p=gp^;");
        due("build", x.build(0), 2);
        due("THE TEXT stays", x.count(0), 12);
        x.state(0);
        x.step(3, 0);
        put(x, 0, "q");
        due("a FAULT", x.build(0), NO);
        due("nothing changes then", x.count(2) * 100 + x.count(8) * 10 + x.value(name('g')), 211);
        x.clear(0);
        put(x, 0, "g=g;");
        due("a RING", x.build(0), NO);
        x.clear(0);
        put(x, 0, "g=h;");
        due("a LACK", x.build(0), NO);
        due("registers stay", x.state(0x55), 1);
        put(x, 1, "h=a;i=h;q=i;");
        due("THE NET", x.build(1), 3);
        due("registers stay by THE NET", x.state(0x55), 0x55);
        due("STEPS stay by THE NET", x.count(8), 1);
        x.clear(0);
        due("an empty one", x.build(0), 0);
        due("registers are x again", x.state(0), 0xAA);
        due("no STEP since then", x.value(0), NO);
        due("all LINES", text(1, "g=a;h=a;i=a;j=a;k=a;l=a;m=a;n=a;o=a;p=a;q=a;r=a;s=a;").build(1), 13);
        refused("build", BAD, x::build, -1, 2, LOW, HIGH);
        WishToChip y = built("h=g~;g=a;", "");
        due("a LINE may come ahead of what it leans on", y.truth(0, name('h'), 0), 1);
        due("then too", y.truth(0, name('h'), 1), 0);
    }

    private static void line() {
        WishToChip x = built("g=ab&;h=gg|c^;p=hpd?~;", "q=0;");
        due("TOKENS", x.line(0, name('g'), 0), 3);
        due("TOKENS", x.line(0, name('p'), 0), 5);
        due("leans", x.line(0, name('g'), 1), bits("ab"));
        due("leans through a wire", x.line(0, name('h'), 1), bits("abcg"));
        due("leans through two, and on itself", x.line(0, name('p'), 1), bits("abcdghp"));
        due("leans on nothing", x.line(1, name('q'), 1), 0);
        due("how often", x.line(0, name('g'), 2), 2);
        due("how often", x.line(0, name('h'), 2), 1);
        due("how often a register", x.line(0, name('p'), 2), 1);
        due("never", x.line(1, name('q'), 2), 0);
        due("no LINE", x.line(0, name('i'), 0), NONE);
        due("no LINE there", x.line(1, name('g'), 1), NONE);
        due("not through registers", built("g=p;p=a;", "").line(0, name('g'), 1), bits("p"));
        put(x, 0, "i=a;");
        due("as BUILT, not as told since", x.line(0, name('i'), 0), NONE);
        refused("line of view", BAD, v -> x.line(v, name('g'), 0), -1, 2, LOW, HIGH);
        refused("line of name", BAD, v -> x.line(0, v, 0), -1, 0, 5, 19, LOW, HIGH);
        refused("line of what", BAD, v -> x.line(0, name('g'), v), -1, 3, LOW, HIGH);
        refused("BAD goes ahead of NONE", BAD, v -> x.line(0, name('i'), v), -1, 3);
    }

    // ---- steps, truth

    private static void state() {
        WishToChip x = new WishToChip();
        due("x at first", x.state(0x55), 0xAA);
        due("all 1", x.state(0), 0x55);
        due("all 0", x.state(0x80 | 0x10 | 0x04), 0);
        refused("state", BAD, x::state, 3, 12, 48, 192, 255, 256, -1, LOW, HIGH);
        due("nothing changed", x.state(0), 0x94);
        due("each by itself", built("p=q;q=r;r=s;s=p;", "").state(0x94), 0xAA);
        WishToChip y = built("p=q;q=r;r=s;s=p;", "");
        y.state(0x94);
        due("STEPPED from there: q was 1, r 1, s x, p 0", y.step(0, 0), 0x25);
    }

    /** g by a, b, c, each 0, 1 or x. */
    private static int stepped(String tokens, int a, int b, int c) {
        WishToChip x = built("g=" + tokens + ";", "");
        int inputs = a & 1 | (b & 1) << 1 | (c & 1) << 2;
        x.step(inputs, a >> 1 | b >> 1 << 1 | c >> 1 << 2);
        return x.value(name('g'));
    }

    private static void step() {
        int[][] pairs = {{0, 0}, {0, 1}, {0, 2}, {1, 0}, {1, 1}, {1, 2}, {2, 0}, {2, 1}, {2, 2}};
        int[] and = {0, 0, 0, 0, 1, 2, 0, 2, 2};
        int[] or = {0, 1, 2, 1, 1, 1, 2, 1, 2};
        int[] xor = {0, 1, 2, 1, 0, 2, 2, 2, 2};
        int[] chosenByX = {0, 2, 2, 2, 1, 2, 2, 2, 2};
        for (int k = 0; k < 9; k++) {
            int a = pairs[k][0];
            int b = pairs[k][1];
            due("& of " + a + b, stepped("ab&", a, b, 0), and[k]);
            due("| of " + a + b, stepped("ab|", a, b, 0), or[k]);
            due("^ of " + a + b, stepped("ab^", a, b, 0), xor[k]);
            due("? by 1 of " + a + b, stepped("cab?", a, b, 1), a);
            due("? by 0 of " + a + b, stepped("cab?", a, b, 0), b);
            due("? by x of " + a + b, stepped("cab?", a, b, 2), chosenByX[k]);
        }
        for (int a = 0; a <= 2; a++) due("~ of " + a, stepped("a~", a, 0, 0), a == 2 ? 2 : 1 - a);
        due("0", stepped("0", 2, 2, 2), 0);
        due("1", stepped("1", 2, 2, 2), 1);
        due("x is told of each TOKEN by itself", stepped("aa^", 2, 0, 0), 2);
        WishToChip x = built("p=pa^;q=p;", "");
        due("x stays x, q becomes p", x.step(0, 0), 0xAA);
        x.state(1);
        due("all registers at once", x.step(1, 0), 4);
        due("those without a LINE stay", x.state(0x90), 4);
        due("r, s stay", x.step(0, 0), 0x90);
        due("an input that is 1 and not known is x", x.step(1, 1), 0x92);
        due("all inputs not known", x.step(0, 63), 0x9A);
        refused("step by inputs", BAD, v -> x.step(v, 0), -1, 64, LOW, HIGH);
        refused("step by unknown", BAD, v -> x.step(0, v), -1, 64, LOW, HIGH);
        due("nothing changed", x.count(8), 5);
        due("nothing changed", x.state(0), 0x9A);
        WishToChip y = built("", "p=0;");
        due("STEPPED is THE WISH", y.step(0, 0), 0xAA);
        WishToChip z = built("p=f;s=e;", "");
        due("input f", z.step(32, 0), 0x29);
        due("input e", z.step(16, 0), 0x68);
    }

    private static void value() {
        WishToChip x = built("g=ap&;p=g~;", "h=a;");
        refused("value", BAD, x::value, -1, 19, LOW, HIGH);
        due("no STEP", x.value(0), NO);
        x.state(1);
        x.step(1 | 4, 2);
        due("an input", x.value(0), 1);
        due("an input not known", x.value(1), 2);
        due("an input", x.value(2), 1);
        due("an input", x.value(3), 0);
        due("a wire", x.value(name('g')), 1);
        due("a wire without a LINE", x.value(name('h')), 2);
        due("a register: ahead of the STEP", x.value(name('p')), 1);
        due("a register without a LINE", x.value(name('q')), 0);
        x.state(0xAA);
        due("in the last STEP, not since", x.value(name('p')), 1);
        x.step(0, 0);
        due("in the last STEP", x.value(name('p')), 2);
        rebuild(x, 1, "g=a;");
        due("THE NET takes nothing of it", x.value(name('g')), 0);
        rebuild(x, 0, "g=a;");
        due("since THE WISH was BUILT none", x.value(name('g')), NO);
        due("BAD goes ahead of NO", x.value(19), BAD);
    }

    private static void truth() {
        WishToChip x = built("g=ab&;h=gp|;p=ha^;", "g=abc?;r=s;");
        due("g", x.truth(0, name('g'), 3), 1);
        due("g", x.truth(0, name('g'), 2), 0);
        due("h by p", x.truth(0, name('h'), 64), 1);
        due("NEXT of p", x.truth(0, name('p'), 64), 1);
        due("NEXT of p", x.truth(0, name('p'), 65), 0);
        due("NEXT without a LINE: as it is", x.truth(0, name('s'), 512), 1);
        due("NEXT without a LINE: as it is", x.truth(0, name('s'), 511), 0);
        due("a wire without a LINE", x.truth(0, name('o'), 1023), 0);
        due("THE NET's chosen by 1", x.truth(1, name('g'), 3), 1);
        due("THE NET's chosen by 1", x.truth(1, name('g'), 5), 0);
        due("THE NET's chosen by 0", x.truth(1, name('g'), 4), 1);
        due("THE NET's NEXT of r", x.truth(1, name('r'), 512), 1);
        due("THE NET's NEXT of r", x.truth(1, name('r'), 256), 0);
        for (int k = 0; k < 6; k++) {
            due("input " + k, x.truth(0, k, 1 << k), 1);
            due("input " + k, x.truth(0, k, 1023 - (1 << k)), 0);
        }
        refused("truth by view", BAD, v -> x.truth(v, 6, 0), -1, 2, LOW, HIGH);
        refused("truth of name", BAD, v -> x.truth(0, v, 0), -1, 19, LOW, HIGH);
        refused("truth in row", BAD, v -> x.truth(0, 6, v), -1, 1024, LOW, HIGH);
    }

    private static void ones() {
        WishToChip x = built("g=ab&;h=1;i=0;p=gp^;", "g=abcdef&&&&&pqrs&&&&;");
        due("g", x.ones(0, name('g')), 256);
        due("1", x.ones(0, name('h')), 1024);
        due("0", x.ones(0, name('i')), 0);
        due("NEXT", x.ones(0, name('p')), 512);
        due("one ROW", x.ones(1, name('g')), 1);
        due("an input", x.ones(0, 0), 512);
        due("a wire without a LINE", x.ones(0, name('o')), 0);
        due("a register without a LINE", x.ones(1, name('p')), 512);
        refused("ones by view", BAD, v -> x.ones(v, 6), -1, 2, LOW, HIGH);
        refused("ones of name", BAD, v -> x.ones(0, v), -1, 19, LOW, HIGH);
    }

    private static void start() {
        WishToChip x = built("p=1;", "");
        due("start", x.start(15), 0);
        due("start", x.start(4), 15);
        due("STATES from there", x.states(), 1 << 4 | 1 << 5);
        refused("start", BAD, x::start, -1, 16, LOW, HIGH);
        due("nothing changed", x.start(0), 4);
        rebuild(x, 0, "p=0;");
        x.start(9);
        rebuild(x, 0, "q=0;");
        due("START stays when THE WISH is BUILT", x.start(0), 9);
    }

    private static void states() {
        due("without LINES", built("", "p=1;").states(), 1);
        due("by some inputs", built("p=a;", "").states(), 3);
        due("a ring of four", built("p=s~;q=p;r=q;s=r;", "").states(), bit(0, 1, 3, 7, 15, 14, 12, 8));
        due("all", built("p=a;q=b;r=c;s=d;", "").states(), 0xFFFF);
        due("all, told by one input and a row", built("p=f;q=p;r=q;s=r;", "").states(), 0xFFFF);
        due("those that can't be are left out", built("p=a;q=a~;", "").states(), bit(0, 1, 2));
        due("by no inputs but 0", built("p=abcdef|||||~;", "").states(), 3);
        due("by no inputs but 63", built("p=abcdef&&&&&;", "").states(), 3);
        WishToChip x = built("p=p~;q=qp^;r=rpq&^;s=spqr&&^;", "");
        due("counts through all", x.states(), 0xFFFF);
        WishToChip y = built("p=pa&;", "");
        due("what is gone stays gone", y.states(), 1);
        y.start(1);
        due("START is one of them", y.states(), 3);
    }

    private static int bit(int... numbers) {
        int bits = 0;
        for (int k : numbers) bits |= 1 << k;
        return bits;
    }

    private static void differ() {
        WishToChip x = built("g=ab&;p=a;", "g=a~b~|~;p=a;");
        due("alike", x.differ(name('g')), NONE);
        due("alike without LINES", x.differ(name('o')), NONE);
        rebuild(x, 1, "g=ab|;p=ab|;");
        due("the least ROW", x.differ(name('g')), 1);
        due("NEXT", x.differ(name('p')), 2);
        WishToChip y = built("p=a;q=a~;", "g=pq&;");
        due("only in states that can be: p, q are never both 1", y.differ(name('g')), NONE);
        due("q without a LINE in THE NET: as it is", y.differ(name('q')), 0);
        due("p: as it is", y.differ(name('p')), 1);
        y.start(3);
        due("they are now, by START", y.differ(name('g')), 3 * 64);
        WishToChip z = built("p=p~;", "g=p;");
        due("in a state that THE WISH comes to", z.differ(name('g')), 64);
        WishToChip w = built("", "p=p~;g=p;");
        due("STATES are THE WISH's, not THE NET's", w.differ(name('g')), NONE);
        due("the last ROW of a state", built("g=abcdef&&&&&;", "").differ(name('g')), 63);
        due("alike in state 0, not in 1", built("p=a;g=pb&;", "g=pc&;").differ(name('g')), 64 + 2);
        WishToChip last = built("g=abcdef&&&&&pqrs&&&&;", "");
        last.start(15);
        due("the last ROW", last.differ(name('g')), 1023);
        refused("differ", BAD, x::differ, -1, 0, 5, 19, LOW, HIGH);
    }

    private static void touched() {
        WishToChip x = built("g=ab&;h=g~;i=c;p=h;", "");
        due("the same", x.touched(), 0);
        x.clear(0);
        put(x, 0, "g=ab|;h=g~;i=c~~;p=h;");
        due("g and what leans on it, not i", x.touched(), bits("ghp"));
        x.clear(0);
        put(x, 0, "g=ab&;h=g~;i=c;p=h;q=q;");
        due("a LINE that does the same as none", x.touched(), 0);
        put(x, 0, "j=0;r=s;");
        due("a wire of 0 as none, r otherwise", x.touched(), bits("r"));
        x.clear(0);
        due("an empty one", x.touched(), bits("ghip"));
        due("THE WISH stays", x.count(2), 4);
        put(x, 0, "g");
        due("a FAULT", x.touched(), NO);
        put(x, 0, "=g;");
        due("a RING", x.touched(), NO);
        x.clear(0);
        put(x, 0, "g=k;");
        due("a LACK", x.touched(), NO);
        WishToChip y = built("p=a;q=a~;g=pq&;", "");
        y.clear(0);
        put(y, 0, "p=a;q=a~;");
        due("in some ROW, be its state one that can't be", y.touched(), bits("g"));
        WishToChip z = new WishToChip();
        put(z, 0, "g=abcdefpqr&&&&&&&&s&;o=abcdefpqr||||||||s|~;");
        due("in the first ROW alone, in the last alone", z.touched(), bits("go"));
    }

    // ---- gates, times

    private static void gate() {
        WishToChip x = new WishToChip();
        int[] prices = {1, 3, 3, 2, 2, 5, 6};
        int[] delays = {1, 2, 2, 1, 1, 3, 3};
        for (int kind = 0; kind < 7; kind++) {
            int k = kind;
            due("PRICE", x.gate(k, 0, 100), prices[k]);
            due("PRICE", x.gate(k, 0, 1), 100);
            due("DELAY", x.gate(k, 1, 50), delays[k]);
            due("DELAY", x.gate(k, 1, 1), 50);
            refused("PRICE", BAD, v -> x.gate(k, 0, v), 0, 101, -1, LOW, HIGH);
            refused("DELAY", BAD, v -> x.gate(k, 1, v), 0, 51, -1, LOW, HIGH);
            refused("what", BAD, v -> x.gate(k, v, 1), -1, 2, LOW, HIGH);
            due("nothing changed", x.gate(k, 0, 9) * 10 + x.gate(k, 1, 9), 11);
        }
        refused("kind", BAD, v -> x.gate(v, 0, 1), -1, 7, LOW, HIGH);
    }

    private static void rule() {
        WishToChip x = new WishToChip();
        int[] first = {100, 80, 130, 1, 20};
        int[] least = {50, 50, 50, 0, 1};
        int[] most = {300, 300, 300, 9, 500};
        for (int what = 0; what < 5; what++) {
            int k = what;
            due("rule " + k, x.rule(k, least[k]), first[k]);
            due("rule " + k, x.rule(k, most[k]), least[k]);
            refused("rule " + k, BAD, v -> x.rule(k, v), least[k] - 1, most[k] + 1, LOW, HIGH);
            due("nothing changed", x.rule(k, first[k]), most[k]);
        }
        refused("what", BAD, v -> x.rule(v, 100), -1, 5, LOW, HIGH);
    }

    /** THE COVER of one LINE, by PRICES of all KINDS. */
    private static int coverOf(String tokens, int... prices) {
        WishToChip x = built("g=" + tokens + ";", "");
        for (int kind = 0; kind < prices.length; kind++) x.gate(kind, 0, prices[kind]);
        return x.cover(0, name('g'));
    }

    private static void cover() {
        due("a name", coverOf("a"), 0);
        due("a name turned", coverOf("a~"), 1);
        due("a name turned, though another gate is cheaper", coverOf("a~", 5, 1, 1, 1, 1, 1, 1), 5);
        due("and turned again", coverOf("a~~"), 0);
        due("0", coverOf("0"), 0);
        due("1 turned", coverOf("1~"), 0);
        due("& by 1", coverOf("ab&"), 3);
        due("& by 3 and ~", coverOf("ab&", 1, 9, 9, 2, 9, 9, 9), 3);
        due("& by 4 of both turned", coverOf("ab&", 1, 9, 9, 9, 2, 9, 9), 4);
        due("& by 2 of both turned, and ~", coverOf("ab&", 1, 9, 2, 9, 9, 9, 9), 5);
        due("& then ~ by 3", coverOf("ab&~"), 2);
        due("& then ~ by 2 of both turned", coverOf("ab&~", 1, 90, 2, 90, 90, 90, 90), 4);
        due("& then ~ by 1 and ~", coverOf("ab&~", 1, 2, 90, 90, 90, 90, 90), 3);
        due("| by 2", coverOf("ab|", 1, 9, 2, 9, 9, 9, 9), 2);
        due("| by 3 of both turned", coverOf("ab|", 1, 9, 9, 2, 9, 9, 9), 4);
        due("| by 4 and ~", coverOf("ab|"), 3);
        due("| by 1 of both turned, and ~", coverOf("ab|", 1, 2, 90, 90, 90, 90, 90), 5);
        due("| then ~ by 4", coverOf("ab|~"), 2);
        due("| then ~ by 1 of both turned", coverOf("ab|~", 1, 2, 90, 90, 90, 90, 90), 4);
        due("| of both turned by 3", coverOf("a~b~|"), 2);
        due("^", coverOf("ab^"), 5);
        due("^ of both turned is as of neither", coverOf("a~b~^"), 5);
        due("^ then ~: one of them turned", coverOf("ab^~"), 6);
        due("^ of one turned, then ~", coverOf("a~b^~"), 5);
        due("^ of one turned: ~ is as dear behind it", coverOf("ab~^"), 6);
        due("^ of two that are cheaper turned", coverOf("ab&~cd&~^"), 9);
        due("^ of another one turned, then ~", coverOf("ab~^~"), 5);
        due("& of two unlike, both turned", coverOf("ab^c&", 1, 90, 90, 90, 2, 5, 6), 2 + 6 + 1);
        due("| of two turned by a gate ~", coverOf("abc?def?|", 1, 90, 90, 2, 90, 5, 6), 2 + 7 + 7);
        due("1 in the place of what was dearer", coverOf("abc^^1&"), 3 + 5 + 5);
        due("? of two unlike", coverOf("abcd&?"), 6 + 3);
        due("? of two unlike, both turned", coverOf("ab~cd&?~"), 6 + 2);
        due("?", coverOf("abc?"), 6);
        due("? chosen by one turned", coverOf("a~bc?"), 6);
        due("? of both turned, then ~", coverOf("ab~c~?~"), 6);
        due("? of both turned: ~ behind it", coverOf("ab~c~?"), 7);
        due("? of one turned", coverOf("ab~c?"), 7);
        due("? of 0 and 1", coverOf("a01?"), 6);
        due("no gate serves two TOKENS", coverOf("ab&ab&|"), 6);
        WishToChip x = built("g=ab&;h=gg|~;p=p~;", "q=ab^;");
        due("all LINES of THE WISH", x.cover(0, -1), 3 + 2 + 1);
        due("all LINES of THE NET", x.cover(1, -1), 5);
        due("no LINE", x.cover(0, name('i')), NONE);
        due("no LINE there", x.cover(1, name('g')), NONE);
        due("all of none", new WishToChip().cover(0, -1), 0);
        refused("cover by view", BAD, v -> x.cover(v, 6), -1, 2, LOW, HIGH);
        refused("cover of name", BAD, v -> x.cover(0, v), -2, 0, 5, 19, LOW, HIGH);
    }

    private static void arrival() {
        WishToChip x = built("g=ab&;h=g~g~|;p=hpa?;q=0;", "g=a;");
        due("an input", x.arrival(0, 0, 0), 0);
        due("g: & and LOAD for two", x.arrival(0, name('g'), 0), 2 + 2);
        due("h: g, ~ , | and LOAD", x.arrival(0, name('h'), 0), 4 + 1 + 2 + 1);
        due("p: h and ? without LOAD", x.arrival(0, name('p'), 0), 8 + 3);
        due("0", x.arrival(0, name('q'), 0), 0);
        due("a register without a LINE", x.arrival(0, name('r'), 0), 0);
        due("a wire without a LINE", x.arrival(0, name('i'), 0), 0);
        due("LOAD is of the same VIEW's TOKENS", x.arrival(1, name('g'), 0), 0);
        due("g by 80: 1.6 is 2", x.arrival(0, name('g'), 1), 2 + 2);
        due("p by 80: 0.8 is 1, 1.6 is 2, 2.4 is 3", x.arrival(0, name('p'), 1), 4 + 1 + 2 + 1 + 3);
        due("p by 130: 1.3 is 2, 2.6 is 3, 3.9 is 4", x.arrival(0, name('p'), 2), 3 + 2 + 2 + 3 + 1 + 4);
        x.rule(3, 9);
        due("LOAD of 9", x.arrival(0, name('g'), 0), 2 + 18);
        x.rule(3, 0);
        due("no LOAD", x.arrival(0, name('g'), 0), 2);
        x.gate(1, 1, 50);
        x.rule(0, 300);
        due("the slowest", x.arrival(0, name('g'), 0), 150);
        x.rule(0, 50);
        due("50 by 50", x.arrival(0, name('g'), 0), 25);
        WishToChip y = built("g=ab^c^;h=ab|;p=p~~;q=p;", "");
        due("^ and ^", y.arrival(0, name('g'), 0), 6);
        due("|", y.arrival(0, name('h'), 0), 2);
        due("a register as a TOKEN is there at 0", y.arrival(0, name('q'), 0), 0);
        due("~ and ~ , no cover; no LOAD for a register", y.arrival(0, name('p'), 0), 2);
        WishToChip z = built("g=abcdef^^^^^;h=a~;i=bc&;j=def?;", "g=a;");
        due("g", z.arrival(0, name('g'), 0), 15);
        due("by no more than ~ takes", z.arrival(0, name('h'), 0), 1);
        due("by no more than & takes", z.arrival(0, name('i'), 0), 2);
        due("by no more than ? takes", z.arrival(0, name('j'), 0), 3);
        due("not as in the other VIEW", z.arrival(1, name('h'), 0), 0);
        refused("arrival by view", BAD, v -> x.arrival(v, 6, 0), -1, 2, LOW, HIGH);
        refused("arrival of name", BAD, v -> x.arrival(0, v, 0), -1, 19, LOW, HIGH);
        refused("arrival at corner", BAD, v -> x.arrival(0, 6, v), -1, 3, LOW, HIGH);
    }

    /** THE WAY as letters. */
    private static void dueWay(WishToChip x, String letters) {
        due("the name itself", x.worst(0, 0, -1), name(letters.charAt(0)));
        for (int i = 0; i < letters.length(); i++) due("name " + i + " of " + letters, x.worst(0, 0, i), name(letters.charAt(i)));
        refused("behind the end of " + letters, NONE, v -> x.worst(0, 0, v), letters.length(), letters.length() + 1, 99, HIGH);
    }

    private static void worst() {
        WishToChip x = built("g=ab&;h=cg&;p=h~;", "");
        dueWay(x, "phga");
        due("SLACK", x.worst(0, 0, -2), 20 - 7);
        x.rule(4, 1);
        due("SLACK below 0", x.worst(0, 0, -2), 1 - 7);
        due("THE NET has no LINE", x.worst(1, 0, -1), NONE);
        due("THE NET has no SLACK", x.worst(1, 0, -2), -10000);
        due("THE NET has no WAY", x.worst(1, 0, 0), NONE);
        dueWay(built("g=ab&;h=cd&;", ""), "ga");
        dueWay(built("g=a~;p=b~;q=bc&;s=ba&;", ""), "qb");
        dueWay(built("p=abc&&;", ""), "pb");
        dueWay(built("p=ab&c&;", ""), "pa");
        dueWay(built("p=abc~?;", ""), "pc");
        dueWay(built("p=0~;", ""), "p");
        dueWay(built("p=a1&;", ""), "pa");
        dueWay(built("p=1a&;", ""), "p");
        dueWay(built("g=10&;p=g;", ""), "g");
        dueWay(built("g=10&;p=g~;", ""), "pg");
        dueWay(built("p=qp&;q=p;", ""), "pq");
        dueWay(built("p=p~;q=q~~;", ""), "qq");
        dueWay(built("s=g~;g=h~;h=i~;i=j~;j=k~;k=l~;l=m~;m=n~;n=o~;o=f~;", ""), "sghijklmnof");
        WishToChip y = built("g=a~~~;p=ab^;", "");
        due("at corner 0 they are even: the lowest", y.worst(0, 0, -1), name('g'));
        y.rule(1, 50);
        due("at 50: 1 and 1 and 1, but 1.5 is 2", y.worst(0, 1, -1), name('g'));
        y.rule(2, 300);
        y.gate(5, 1, 4);
        due("by another DELAY", y.worst(0, 2, -1), name('p'));
        due("its SLACK", y.worst(0, 2, -2), 20 - 12);
        refused("worst by view", -10001, v -> x.worst(v, 0, 0), -1, 2, LOW, HIGH);
        refused("worst at corner", -10001, v -> x.worst(0, v, 0), -1, 3, LOW, HIGH);
        refused("worst of i", -10001, v -> x.worst(0, 0, v), -3, LOW);
        refused("BAD goes ahead of NONE", -10001, v -> x.worst(1, 0, v), -3, LOW);
    }

    // ---- places

    private static WishToChip blocks(int many, int... nets) {
        WishToChip x = new WishToChip();
        for (int k = 0; k < many; k++) x.block();
        for (int net : nets) x.net(net);
        return x;
    }

    private static void block() {
        WishToChip x = new WishToChip();
        for (int k = 0; k < 7; k++) due("block", x.block(), k);
        due("FULL", x.block(), FULL);
        for (int k = 0; k < 7; k++) due("its PLACE", x.place(k, k), k);
        WishToChip y = blocks(2);
        y.place(0, 5);
        due("the lowest free", y.block() * 10 + y.place(2, 0), 20);
        due("the next one", y.block() * 10 + y.place(3, 2), 32);
    }

    private static void net() {
        WishToChip x = blocks(3);
        due("net", x.net(3), 1);
        due("the same again", x.net(3), 2);
        due("all", x.net(7), 3);
        refused("net", BAD, x::net, 0, 1, 2, 4, 8, 9, 11, -1, LOW, HIGH);
        for (int k = 4; k <= 8; k++) due("net", x.net(5), k);
        due("FULL", x.net(5), FULL);
        due("BAD goes ahead of FULL", x.net(1), BAD);
        due("there are eight", x.count(5), 8);
        due("without BLOCKS", new WishToChip().net(3), BAD);
        due("seven", blocks(7).net(127), 1);
    }

    private static void place() {
        WishToChip x = blocks(2, 3);
        due("place", x.place(0, 7), 0);
        due("where it is", x.place(0, 7), 7);
        due("another one is there", x.place(0, 1), NO);
        due("and there", x.place(1, 7), NO);
        due("nothing changed", x.wire(0), 3);
        due("a free one", x.place(1, 0), 1);
        due("WIRE", x.wire(0), 4);
        refused("place of block", BAD, v -> x.place(v, 3), -1, 2, 7, LOW, HIGH);
        refused("place at", BAD, v -> x.place(0, v), -1, 8, LOW, HIGH);
        due("BAD", x.place(2, 7), BAD);
    }

    private static void wire() {
        WishToChip x = blocks(4, 3, 12, 15);
        due("0, 1", x.wire(0), 1);
        due("2, 3", x.wire(1), 1);
        due("all four", x.wire(2), 3);
        due("all NETS", x.wire(-1), 5);
        x.place(3, 4);
        due("2 and 4: a row and two columns", x.wire(1), 3);
        due("rows 0 to 1, columns 0 to 2", x.wire(2), 3);
        x.place(0, 7);
        due("7 and 1", x.wire(0), 3);
        due("7, 1, 2, 4", x.wire(2), 4);
        due("all NETS", x.wire(-1), 10);
        refused("wire", BAD, x::wire, 3, -2, LOW, HIGH);
        due("without NETS", blocks(2).wire(-1), 0);
        due("without NETS", blocks(2).wire(0), BAD);
        WishToChip full = blocks(7, 3, 6, 12, 24, 48, 96, 65, 127);
        due("eight NETS of seven BLOCKS", full.wire(-1), 1 + 1 + 1 + 4 + 1 + 1 + 3 + 4);
        due("the last NET", full.wire(7), 4);
    }

    private static void dueLeast(WishToChip x, int wire, int... places) {
        due("least WIRE", x.least(-1), wire);
        for (int k = 0; k < places.length; k++) due("PLACE of " + k, x.least(k), places[k]);
    }

    private static void least() {
        WishToChip x = blocks(3, 3, 5);
        dueLeast(x, 2, 0, 1, 4);
        due("BLOCKS stay where they are", x.wire(-1), 3);
        refused("least", BAD, x::least, 3, 7, -2, LOW, HIGH);
        x.net(6);
        dueLeast(x, 4, 0, 1, 2);
        due("a new BLOCK", x.block(), 3);
        dueLeast(x, 4, 0, 1, 2, 3);
        x.place(0, 7);
        dueLeast(x, 4, 0, 1, 2, 3);
        dueLeast(new WishToChip(), 0);
        dueLeast(blocks(7), 0, 0, 1, 2, 3, 4, 5, 6);
        dueLeast(blocks(2, 3), 1, 0, 1);
        dueLeast(blocks(3, 7), 2, 0, 1, 2);
        dueLeast(blocks(4, 15), 2, 0, 1, 4, 5);
        dueLeast(blocks(5, 31), 3, 0, 1, 2, 4, 5);
        dueLeast(blocks(6, 63), 3, 0, 1, 2, 4, 5, 6);
        dueLeast(blocks(3, 5, 6), 2, 0, 2, 1);
        dueLeast(blocks(7, 3, 3, 3, 3, 3, 3, 3, 65), 8, 0, 1, 2, 3, 5, 6, 4);
        dueLeast(blocks(4, 3, 5, 9), 3, 1, 0, 2, 5);
        dueLeast(blocks(4, 3, 6, 12, 9), 4, 0, 1, 5, 4);
        dueLeast(blocks(7, 127), 4, 0, 1, 2, 3, 4, 5, 6);
        dueLeast(blocks(7, 3, 6, 12, 24, 48, 96, 65), 8, 0, 1, 2, 3, 6, 5, 4);
        due("without BLOCKS", new WishToChip().least(0), BAD);
    }

    private static void swap() {
        WishToChip x = blocks(3, 3, 5);
        due("swap", x.swap(), 1);
        due("PLACES 0 and 1 were the first pair", x.place(0, 1) * 10 + x.place(1, 0), 10);
        due("no more", x.swap(), 0);
        WishToChip y = blocks(2, 3);
        y.place(1, 7);
        due("one goes to a free PLACE", y.swap(), 1);
        due("of several the first pair: 0 and 3", y.place(0, 0) * 10 + y.place(1, 7), 37);
        WishToChip z = blocks(7, 65, 10, 20);
        int before = z.wire(-1);
        int swaps = z.swap();
        due("WIRE went down by each", before - z.wire(-1) >= swaps && swaps > 1 ? 1 : 0, 1);
        due("and none helps any more", z.swap(), 0);
        due("as many as the model says", swaps, 2);
        due("without BLOCKS", new WishToChip().swap(), 0);
        due("without NETS", blocks(7).swap(), 0);
    }

    // ---- trials

    private static void ends() {
        WishToChip x = built("", "g=a;h=a;p=a;");
        due("all at first", x.ends(bits("gp")), ALL_ENDS);
        due("only those FAIL", x.fails(1, 0), bits("gp"));
        due("what they were, without a LINE too", x.ends(bits("io")), bits("gp"));
        due("what has no LINE is none", x.fails(1, 0), 0);
        due("none", x.ends(0), bits("io"));
        refused("ends", BAD, x::ends, 1, 32, ALL_ENDS + 32, 1 << 19, -1, LOW, HIGH);
        due("nothing changed", x.ends(ALL_ENDS), 0);
        due("all", x.fails(1, 0), bits("ghp"));
    }

    private static void fails() {
        WishToChip x = built("", "g=ab&;h=g~;p=gp^;");
        due("a stuck at 0", x.fails(0, 3), bits("ghp"));
        due("a stuck at 1 in a ROW where it is 1", x.fails(1, 3), 0);
        due("a stuck at 1", x.fails(1, 2), bits("ghp"));
        due("g stuck at 1: as an END and wherever it is used", x.fails(13, 0), bits("ghp"));
        due("h stuck at 0", x.fails(14, 0), bits("h"));
        due("h stuck at 1", x.fails(15, 0), 0);
        due("p stuck at 1: where it is used", x.fails(31, 0), bits("p"));
        due("p stuck at 0, NEXT is by its LINE", x.fails(30, 64), bits("p"));
        due("p stuck at 0, which it is", x.fails(30, 0), 0);
        due("i has no LINE", x.fails(17, 0), 0);
        WishToChip y = built("", "p=a;q=p;g=r;");
        due("NEXT is not stuck there, q's use is", y.fails(31, 0), bits("q"));
        due("a register without a LINE", y.fails(35, 0), bits("g"));
        due("the last FAULT", y.fails(37, 1023), 0);
        refused("fails by fault", BAD, v -> x.fails(v, 0), -1, 38, LOW, HIGH);
        refused("fails in row", BAD, v -> x.fails(0, v), -1, 1024, LOW, HIGH);
        WishToChip z = built("g=a;", "");
        due("of THE NET, not of THE WISH", z.fails(1, 0), 0);
    }

    private static void finds() {
        WishToChip x = built("", "g=ab&;h=aa~&;i=cdef&&&;p=ps&;");
        due("a stuck at 0, wherever it is used: h is 0 all the same", x.finds(0), 3);
        due("b stuck at 1", x.finds(3), 1);
        due("c stuck at 0", x.finds(4), 60);
        due("h stuck at 0 can't be found", x.finds(14), NONE);
        due("h stuck at 1", x.finds(15), 0);
        due("s stuck at 0", x.finds(36), 576);
        due("s stuck at 1", x.finds(37), 64);
        due("q is not used", x.finds(33), NONE);
        x.ends(bits("g"));
        due("by ENDS alone", x.finds(15), NONE);
        due("g stuck at 1", x.finds(13), 0);
        refused("finds", BAD, x::finds, -1, 38, LOW, HIGH);
    }

    private static void trial() {
        WishToChip x = new WishToChip();
        for (int k = 1; k <= 9; k++) due("trial", x.trial(k == 2 ? 1023 : 0), k);
        refused("trial", BAD, x::trial, -1, 1024, LOW, HIGH);
        due("the tenth", x.trial(5), 10);
        due("FULL", x.trial(5), FULL);
        due("BAD goes ahead of FULL", x.trial(1024), BAD);
        due("there are ten", x.count(6), 10);
    }

    private static void noTrials() {
        WishToChip x = built("", "g=a;");
        due("none", x.noTrials(), 0);
        x.trial(0);
        x.trial(1);
        x.see(0, bits("g"));
        due("two", x.noTrials(), 2);
        due("gone", x.count(6), 0);
        due("nothing is found", x.fewest(0), 0);
        due("all COULD be", x.could(-1), 39);
        due("one again", x.trial(0), 1);
        due("not SEEN", x.see(0, 0), -1);
    }

    private static void fewest() {
        WishToChip x = built("", "g=ab&;");
        due("without TRIALS", x.fewest(0), 0);
        due("without TRIALS", x.fewest(1), 0);
        x.trial(0);
        due("g stuck at 1", x.fewest(0), 1);
        x.trial(1);
        due("and b", x.fewest(0), 2);
        due("the second finds both", x.fewest(1), 2);
        x.trial(2);
        x.trial(3);
        due("a, b, g both ways", x.fewest(0), 6);
        due("without the first", x.fewest(1), 14);
        x.trial(3);
        due("of several the least bits", x.fewest(1), 14);
        x.ends(0);
        due("without ENDS", x.fewest(0), 0);
        due("without ENDS", x.fewest(1), 0);
        refused("fewest", BAD, x::fewest, -1, 2, LOW, HIGH);
        WishToChip y = built("", "g=a;h=b;i=c;j=d;");
        for (int row : new int[] {0, 1, 3, 14, 15}) y.trial(row);
        due("two of five, 1 and 3 ahead of 0 and 4", y.fewest(1), 2 | 8);
        due("inputs and wires both ways", y.fewest(0), 16);
        WishToChip z = built("", "g=a;h=b;");
        for (int row : new int[] {3, 1, 2, 0}) z.trial(row);
        due("1 and 2 are lower bits than 0 and 3", z.fewest(1), 2 | 4);
        WishToChip w = built("", "g=ab&;");
        for (int row : new int[] {1, 2, 3}) w.trial(row);
        due("all of them", w.fewest(1), 7);
        WishToChip v = built("", "g=a;h=b;i=c;j=d;");
        for (int row : new int[] {0, 15, 1}) v.trial(row);
        due("0 and 1 of three", v.fewest(1), 1 | 2);
        for (int row = 0; row < 7; row++) v.trial(row);
        due("0 and 1 of ten", v.fewest(1), 1 | 2);
    }

    private static void see() {
        WishToChip x = built("", "g=a;");
        due("no TRIAL", x.see(0, 0), -100);
        x.trial(0);
        x.trial(1);
        due("see", x.see(1, bits("g")), -1);
        due("see", x.see(1, 0), bits("g"));
        due("see", x.see(1, ALL_ENDS), 0);
        refused("see of trial", -100, v -> x.see(v, 0), -1, 2, 10, LOW, HIGH);
        refused("see of fails", -100, v -> x.see(1, v), -2, 1, 32, 1 << 19, ALL_ENDS + 1, LOW, HIGH);
        due("nothing changed", x.see(1, -1), ALL_ENDS);
        due("nothing SEEN again", x.see(1, -1), -1);
        due("the other one's", x.see(0, -1), -1);
    }

    private static void dueCould(WishToChip x, int... faults) {
        due("how many COULD be", x.could(-1), faults.length);
        for (int i = 0; i < faults.length; i++) due("number " + i, x.could(i), faults[i]);
        refused("behind the last", NONE, x::could, faults.length, 39, HIGH);
    }

    private static void could() {
        WishToChip x = built("", "g=ab&;h=g~;");
        int[] all = new int[39];
        for (int k = 0; k < 39; k++) all[k] = k;
        dueCould(x, all);
        x.trial(3);
        x.trial(1);
        dueCould(x, all);
        x.see(0, bits("gh"));
        dueCould(x, 0, 2, 12);
        x.see(1, bits("gh"));
        dueCould(x);
        x.see(0, -1);
        dueCould(x, 3, 13);
        x.see(1, bits("h"));
        dueCould(x, 14);
        x.see(1, bits("i"));
        dueCould(x);
        x.see(1, 0);
        due("none at all is among them", x.could(x.could(-1) - 1), 38);
        due("all but 3, 13, 14", x.could(-1), 36);
        x.see(0, 0);
        due("a, b, g stuck at 0 and h at 1 go too", x.could(-1), 32);
        x.ends(0);
        due("without ENDS nothing FAILS", x.could(-1), 39);
        refused("could", BAD, x::could, -2, LOW);
        WishToChip y = built("", "g=ab&;h=a;");
        y.trial(3);
        y.see(0, bits("gh"));
        dueCould(y, 0);
    }

    private static void parts() {
        WishToChip x = built("", "g=ab&;h=cd&;");
        due("no TRIAL", x.parts(), NONE);
        x.trial(0);
        x.trial(15);
        x.trial(5);
        due("15 parts more", x.parts(), 1);
        x.see(1, bits("g"));
        due("a, b, g stuck at 0: neither parts them, the lowest", x.parts(), 0);
        x.see(0, 0);
        due("not those SEEN", x.parts(), 2);
        x.see(2, 0);
        due("all are SEEN", x.parts(), NONE);
        x.see(2, -1);
        x.see(1, bits("gh"));
        due("none COULD be", x.could(-1) * 10 + x.parts(), NONE);
        WishToChip y = built("", "g=a;");
        y.trial(0);
        y.trial(1);
        y.trial(1);
        y.see(1, bits("g"));
        due("a, g stuck at 0", y.could(-1), 2);
        due("there is one left to make", y.parts(), 0);
        WishToChip z = built("", "g=a;h=ab&;");
        z.trial(3);
        z.trial(2);
        z.see(0, bits("g"));
        due("just one COULD be", z.could(-1) * 100 + z.could(0), 112);
        due("nothing to part", z.parts(), NONE);
        WishToChip w = built("", "g=ab|;");
        w.trial(0);
        w.trial(3);
        w.see(0, 0);
        due("38 is among those to part", w.parts(), 1);
        WishToChip empty = new WishToChip();
        empty.trial(0);
        due("39 are alike: it is the best there is", empty.parts(), 0);
        for (int row = 1; row < 10; row++) empty.trial(row);
        for (int i = 0; i < 9; i++) empty.see(i, 0);
        due("the last of ten", empty.parts(), 9);
        WishToChip v = built("", "g=a;h=a~bcdef^^^^&;");
        v.trial(1);
        v.trial(0);
        due("the greatest number of those alike, not the first: 36 and 31", v.parts(), 1);
    }

    private static void keep() {
        WishToChip x = new WishToChip();
        due("keep", x.keep(), 1);
        due("keep", x.keep(), 2);
        due("FULL", x.keep(), FULL);
        due("two", x.count(7), 2);
        x.back();
        due("one more again", x.keep(), 2);
    }

    private static void back() {
        WishToChip x = built("g=a;p=a;", "h=b;");
        due("nothing KEPT", x.back(), NO);
        x.state(0x55);
        x.start(3);
        x.ends(bits("h"));
        x.trial(1);
        x.keep();
        rebuild(x, 0, "g=b;q=a;r=a;");
        rebuild(x, 1, "i=b;j=a;k=a;l=a;");
        x.state(0x11);
        x.start(5);
        x.ends(0);
        x.keep();
        rebuild(x, 0, "");
        x.state(0);
        x.step(63, 0);
        x.step(1, 0);
        x.block();
        due("back", x.back(), 1);
        due("LINES", x.count(2) * 10 + x.count(3), 34);
        due("g is b", x.truth(0, name('g'), 2) * 10 + x.truth(0, name('g'), 1), 10);
        due("registers", x.state(0x11), 0x11);
        due("START", x.start(6), 5);
        due("ENDS", x.ends(0), 0);
        due("STEPS stay", x.count(8), 2);
        due("values of the last one stay", x.value(0) * 100 + x.value(1) * 10 + x.value(name('g')), 102);
        due("TEXTS stay", x.count(0) * 100 + x.count(1), 16);
        due("back", x.back(), 0);
        due("LINES", x.count(2) * 10 + x.count(3), 21);
        due("g is a", x.truth(0, name('g'), 2) * 10 + x.truth(0, name('g'), 1), 1);
        due("its LINE leans", x.line(1, name('h'), 1), bits("b"));
        due("registers", x.state(0), 0x55);
        due("START", x.start(0), 3);
        due("ENDS", x.ends(0), bits("h"));
        due("STEPS stay", x.count(8), 2);
        due("TRIALS, BLOCKS stay", x.count(6) * 10 + x.count(4), 11);
        due("no more", x.back(), NO);
        due("it steps as THE WISH that is back", x.step(1, 0), 1);
        WishToChip y = built("g=a;", "");
        y.step(1, 0);
        y.keep();
        rebuild(y, 0, "g=b;");
        y.back();
        due("a STEP ahead of the last BUILT is none", y.value(name('g')), NO);
        due("a STEP ahead of the last BUILT is none", y.count(8), 0);
        WishToChip z = built("p=a;", "");
        z.keep();
        z.state(0);
        z.back();
        z.keep();
        z.step(1, 0);
        due("what was KEPT and is back changes nothing KEPT", z.back(), 0);
        due("registers as KEPT", z.state(0), 0xAA);
    }

    private static void count() {
        WishToChip x = built("g=a;", "h=a;p=h;");
        put(x, 1, "g");
        x.block();
        x.block();
        x.block();
        for (int k = 0; k < 4; k++) x.net(3);
        for (int k = 0; k < 5; k++) x.trial(k);
        x.keep();
        for (int k = 0; k < 6; k++) x.step(0, 0);
        int[] counts = {4, 9, 1, 2, 3, 4, 5, 1, 6};
        for (int what = 0; what < 9; what++) due("count of " + what, x.count(what), counts[what]);
        refused("count", BAD, x::count, -1, 9, LOW, HIGH);
        rebuild(x, 0, "g=a;");
        due("STEPS since THE WISH was BUILT", x.count(8), 0);
    }
}
