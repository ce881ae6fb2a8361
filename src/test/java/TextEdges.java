/** Promises 1 to 7: each sentence of the document that names an edge of TEXTS, FAULTS, RINGS, LINES. */
public final class TextEdges {
    private static final int NO = Due.NO, FULL = Due.FULL, NONE = Due.NONE;
    private static final int MOST_BYTES = 200, MOST_VALUES = 10;

    public static void main(String[] args) {
        newObject();
        newObjectsShareNothing();
        names();
        bytesWritten();
        mostBytes();
        cleared();
        letterOfLine();
        letterTwice();
        equalsSign();
        tokensByValues();
        tokensBehindGates();
        theEnd();
        theFirstOfSeveral();
        rings();
        lacks();
        building();
        registersAgain();
        lines();
        Due.end();
    }

    // ---- promise 1

    private static void newObject() {
        Due.sentence(1, "Empty TEXTS and VIEWS, no BLOCKS, TRIALS.");
        for (int what = 0; what <= 8; what++) Due.due("count(" + what + ")", new WishToChip().count(what), 0);
        for (int view = 0; view < 2; view++) {
            Due.due("clear", new WishToChip().clear(view), 0);
            Due.due("fault", new WishToChip().fault(view), NONE);
            Due.due("RING", new WishToChip().ring(view, 0), NONE);
            Due.due("LACK", new WishToChip().ring(view, 1), NONE);
            Due.due("build", new WishToChip().build(view), 0);
            Due.due("cover of all", new WishToChip().cover(view, -1), 0);
            Due.due("worst", new WishToChip().worst(view, 0, -1), NONE);
            for (int name = 6; name <= 18; name++) {
                Due.due("line", new WishToChip().line(view, name, 0), NONE);
                Due.due("arrival", new WishToChip().arrival(view, name, 0), 0);
                Due.due("ones", new WishToChip().ones(view, name), name < 15 ? 0 : 512);
            }
        }
        Due.due("wire", new WishToChip().wire(-1), 0);
        Due.due("least", new WishToChip().least(-1), 0);
        Due.due("swap", new WishToChip().swap(), 0);
        Due.due("noTrials", new WishToChip().noTrials(), 0);
        Due.due("fewest", new WishToChip().fewest(0), 0);
        Due.due("fewest", new WishToChip().fewest(1), 0);
        Due.due("could", new WishToChip().could(-1), 39);
        Due.due("parts", new WishToChip().parts(), NONE);
        Due.due("back", new WishToChip().back(), NO);
        Due.due("touched", new WishToChip().touched(), 0);
        Due.sentence(1, "Registers are x at first");
        Due.due("state", new WishToChip().state(0), 0xAA);
        Due.due("step", new WishToChip().step(63, 0), 0xAA);
        Due.sentence(1, "START (0 to 15; 0 at first)");
        Due.due("start", new WishToChip().start(15), 0);
        Due.due("states", new WishToChip().states(), 1);
        Due.sentence(1, "are told so (bits; all at first)");
        Due.due("ends", new WishToChip().ends(0), Due.ALL_ENDS);
    }

    private static void newObjectsShareNothing() {
        Due.sentence(1, "Empty TEXTS and VIEWS, no BLOCKS, TRIALS.");
        WishToChip untouched = new WishToChip();
        WishToChip x = Due.built("g=ab&;p=g;", "h=ab|;q=h;");
        for (int k = 0; k < 7; k++) x.block();
        for (int k = 0; k < 8; k++) x.net(127);
        for (int k = 0; k < 10; k++) x.trial(k);
        for (int k = 0; k < 7; k++) x.gate(k, 0, 100);
        for (int k = 0; k < 5; k++) x.rule(k, k < 3 ? 300 : 9);
        x.start(15);
        x.ends(0);
        x.state(0);
        x.step(1, 0);
        x.keep();
        for (int what = 0; what <= 8; what++) {
            Due.due("count(" + what + ") of one made ahead", untouched.count(what), 0);
            Due.due("count(" + what + ") of one made behind", new WishToChip().count(what), 0);
        }
        Due.due("PRICE", untouched.gate(6, 0, 1), 6);
        Due.due("FACTOR", untouched.rule(2, 50), 130);
        Due.due("START", untouched.start(1), 0);
        Due.due("ENDS", untouched.ends(0), Due.ALL_ENDS);
        Due.due("registers", untouched.state(0), 0xAA);
    }

    private static void names() {
        Due.sentence(7, "inputs a to f (0 to 5), wires g to o (6 to 14), registers p to s (15 to 18)");
        for (int name = 0; name <= 18; name++) {
            String text = "s=" + Due.letter(name) + ";";
            if (name >= 6 && name <= 14) text += Due.letter(name) + "=0;";
            WishToChip x = Due.built(text, "");
            Due.due("s leans on " + Due.letter(name), x.line(0, 18, 1), 1 << name);
        }
        for (int name = 6; name <= 18; name++) {
            WishToChip x = Due.built(Due.letter(name) + "=1;", "");
            for (int other = 6; other <= 18; other++) {
                Due.due("only " + Due.letter(name) + " has a LINE", x.line(0, other, 0), other == name ? 1 : NONE);
            }
        }
    }

    // ---- promise 2

    private static void bytesWritten() {
        Due.sentence(2, "n bytes (1 to 8) of v, the highest first, come behind THE TEXT of a VIEW: how long it is.");
        String line = "g=ab&~c|";
        for (int n = 1; n <= 8; n++) {
            WishToChip x = new WishToChip();
            long v = 0;
            for (int k = 0; k < n; k++) v = v << 8 | line.charAt(k);
            Due.due("write of " + n, x.write(0, n, v), n);
            Due.put(x, 0, line.substring(n) + ";");
            Due.due("the highest first, of " + n, x.fault(0), NONE);
            Due.due("TOKENS", x.build(0) == 1 ? x.line(0, 6, 0) : -1, 6);
            WishToChip y = new WishToChip();
            long above = n == 8 ? 0 : -1L << 8 * n;
            Due.due("write of the lowest " + n, y.write(1, n, above | v), n);
            Due.put(y, 1, line.substring(n) + ";");
            Due.due("what is above those is left out, of " + n, y.fault(1), NONE);
        }
        for (int k = 0; k < 8; k++) {
            WishToChip x = new WishToChip();
            x.write(0, 8, 0x673D6162267E633BL & ~(255L << 8 * (7 - k)) | 200L << 8 * (7 - k));
            Due.due("byte " + k + " of eight is " + k + " in THE TEXT", x.fault(0), k);
        }
        for (int sign = 128; sign < 256; sign++) {
            Due.due("write of byte " + sign, Due.told(0, "g=a;" + (char) sign).fault(0), 4);
        }
        WishToChip both = new WishToChip();
        Due.due("THE WISH's", both.write(0, 3, 0), 3);
        Due.due("THE NET's are its own", both.write(1, 1, 0), 1);
        Due.due("behind THE WISH's", both.write(0, 8, -1L), 11);
    }

    private static void mostBytes() {
        Due.sentence(2, "are TEXTS of bytes (200 at most)");
        for (int view = 0; view < 2; view++) {
            for (int n = 1; n <= 8; n++) {
                WishToChip x = Due.told(view, "~".repeat(MOST_BYTES - n));
                Due.due("write up to 200 by " + n, x.write(view, n, 0), MOST_BYTES);
                Due.due("bytes", x.count(view), MOST_BYTES);
                Due.due("one more", x.write(view, 1, 0), FULL);
                Due.due("the other TEXT", x.write(1 - view, 8, 0), 8);
                WishToChip y = Due.told(view, "~".repeat(MOST_BYTES - n + 1));
                Due.due("write to 201 by " + n, y.write(view, n, 0), FULL);
                Due.due("none of them came", y.count(view), MOST_BYTES - n + 1);
                if (n > 1) Due.due("those for which there is room", y.write(view, n - 1, 0), MOST_BYTES);
            }
            WishToChip z = Due.told(view, "~".repeat(MOST_BYTES));
            Due.due("clear of a full one", z.clear(view), MOST_BYTES);
            Due.due("room again", z.write(view, 8, 0), 8);
        }
        WishToChip full = Due.told(0, "g=a" + "~".repeat(196));
        Due.due("refused ; at the end", full.write(0, 2, ';' << 8), FULL);
        Due.due("it did not come", full.fault(0), 199);
        Due.due("; at the last place", full.write(0, 1, ';'), MOST_BYTES);
        Due.due("a LINE of 200 bytes", full.build(0), 1);
        Due.due("its TOKENS", full.line(0, 6, 0), 197);
        Due.due("an even number of ~", full.truth(0, 6, 1), 1);
    }

    // ---- promise 3

    private static void cleared() {
        Due.sentence(3, "THE TEXT of a VIEW is empty: how long it was.");
        for (int view = 0; view < 2; view++) {
            for (int length : new int[] {0, 1, 8, 9, 199, 200}) {
                WishToChip x = Due.told(view, "g".repeat(length));
                Due.put(x, 1 - view, "h=a;");
                Due.due("clear of " + length, x.clear(view), length);
                Due.due("empty", x.count(view), 0);
                Due.due("an empty one has no FAULT", x.fault(view), NONE);
                Due.due("the other one stays", x.count(1 - view), 4);
                Due.due("clear of an empty one", x.clear(view), 0);
            }
            WishToChip y = Due.built("g=a;", "h=a;");
            y.clear(view);
            Due.due("the VIEW stays as BUILT", y.count(2 + view), 1);
        }
    }

    // ---- promise 4

    private static int fault(String text) {
        int inWish = Due.told(0, text).fault(0);
        Due.due("fault of " + text + " as THE NET's", Due.told(1, text).fault(1), inWish);
        return inWish;
    }

    private static void letterOfLine() {
        Due.sentence(4, "LINES, each: a letter g to s (none twice), =, TOKENS, ;");
        for (int sign = 0; sign < 256; sign++) {
            boolean stands = sign >= 'g' && sign <= 's';
            Due.due("byte " + sign + " first", fault("" + (char) sign), stands ? 1 : 0);
            boolean standsThere = stands && sign != 'k';
            Due.due("byte " + sign + " behind a LINE", fault("k=a;" + (char) sign), standsThere ? 5 : 4);
        }
    }

    private static void letterTwice() {
        Due.sentence(4, "a letter told twice: that");
        StringBuilder all = new StringBuilder();
        for (int name = 6; name <= 18; name++) {
            String line = Due.letter(name) + "=1;";
            Due.due("twice at once", fault(line + line), 4);
            Due.due("twice at the end", fault(line + Due.letter(name)), 4);
            all.append(line);
        }
        Due.due("each once", fault(all.toString()), NONE);
        for (int name = 6; name <= 18; name++) Due.due("each once, and one again", fault(all.toString() + Due.letter(name)), 52);
        Due.due("as TOKENS as often as may be", fault("g=ppp&&;p=ggg&&;"), NONE);
    }

    private static void equalsSign() {
        Due.sentence(4, "FAULT: the place of the first byte that can't stand there");
        for (int sign = 0; sign < 256; sign++) {
            Due.due("byte " + sign + " behind the letter", fault("g" + (char) sign), sign == '=' ? 2 : 1);
        }
    }

    /** Where this byte can't stand behind so many values. */
    private static boolean stands(int sign, int values) {
        if (sign >= 'a' && sign <= 's' || sign == '0' || sign == '1') return values < MOST_VALUES;
        if (sign == '~') return values >= 1;
        if (sign == '&' || sign == '|' || sign == '^') return values >= 2;
        if (sign == '?') return values >= 3;
        return sign == ';' && values == 1;
    }

    private static void dueByValues(String ahead, int values) {
        for (int sign = 0; sign < 256; sign++) {
            String text = ahead + (char) sign;
            int ended = sign == ';' ? NONE : text.length();
            Due.due("byte " + sign + " behind " + ahead, fault(text), stands(sign, values) ? ended : ahead.length());
        }
    }

    private static void tokensByValues() {
        Due.sentence(4, "a token for which there are not enough values, or which would make more than 10: that; ; with another number than one: that");
        for (int values = 0; values <= MOST_VALUES; values++) dueByValues("g=" + "a".repeat(values), values);
        Due.sentence(4, "At ; there is just one value; never more than 10.");
        for (String leaf : new String[] {"a", "s", "0", "1", "h"}) {
            Due.due("ten of " + leaf, fault("g=" + leaf.repeat(10)), 12);
            Due.due("eleven of " + leaf, fault("g=" + leaf.repeat(11)), 12);
            Due.due("ten of " + leaf + ", one value at last", fault("g=" + leaf.repeat(10) + "&&&&&&&&&;"), NONE);
            Due.due("ten of " + leaf + ", two at last", fault("g=" + leaf.repeat(10) + "&&&&&&&&;"), 20);
            Due.due("ten of " + leaf + ", one gate too many", fault("g=" + leaf.repeat(10) + "&&&&&&&&&&;"), 21);
        }
        for (int values = 0; values <= MOST_VALUES; values++) {
            Due.due("; behind " + values, fault("g=" + "a".repeat(values) + ";"), values == 1 ? NONE : 2 + values);
        }
    }

    private static void tokensBehindGates() {
        Due.sentence(4, "each puts its value in place of those");
        dueByValues("g=a~", 1);
        dueByValues("g=ab&", 1);
        dueByValues("g=abc?", 1);
        dueByValues("g=abc|", 2);
        dueByValues("g=abcd?", 2);
        dueByValues("g=abcde?", 3);
        dueByValues("g=aaaaaaaaaa~", 10);
        dueByValues("g=aaaaaaaaaa^", 9);
        dueByValues("g=aaaaaaaaaa^a", 10);
        dueByValues("g=aaaaaaaaaa?", 8);
        dueByValues("g=aaaaaaaaaa?aa", 10);
        dueByValues("h=a;g=", 0);
        dueByValues("h=aaaaaaaaaa&&&&&&&&&;g=a", 1);
    }

    private static void theEnd() {
        Due.sentence(4, "the end: how many bytes there are");
        String text = "g=ab&;h=gc|~;p=hpa?;q=01^;" + "s=" + "abcdefpqrs&|^?&|~^&;" + "r=1" + "~".repeat(146) + "0&;";
        Due.due("how long it is", text.length(), MOST_BYTES);
        for (int length = 0; length <= text.length(); length++) {
            String part = text.substring(0, length);
            boolean whole = part.isEmpty() || part.endsWith(";");
            Due.due("the first " + length + " bytes", fault(part), whole ? NONE : length);
        }
    }

    private static void theFirstOfSeveral() {
        Due.sentence(4, "FAULT: the place of the first byte that can't stand there");
        Due.due("two bytes that can't", fault("g=a;xx"), 4);
        Due.due("a gate, then a letter told twice", fault("g=&;g=a;"), 2);
        Due.due("a letter told twice, then a gate", fault("g=a;g=&;"), 4);
        Due.due("in the last LINE of thirteen", fault("g=a;h=a;i=a;j=a;k=a;l=a;m=a;n=a;o=a;p=a;q=a;r=a;s=;"), 50);
        String text = "g=ab&;h=gc|~;p=hpa?;";
        for (int k = 0; k < text.length(); k++) {
            Due.due("a wrong byte at " + k, fault(text.substring(0, k) + " " + text.substring(k)), k);
            Due.due("byte 0 at " + k, fault(text.substring(0, k) + (char) 0 + text.substring(k + 1)), k);
        }
    }

    // ---- promise 5

    private static int ring(String text, int what) {
        int inWish = Due.told(0, text).ring(0, what);
        Due.due("ring of " + text + " as THE NET's", Due.told(1, text).ring(1, what), inWish);
        return inWish;
    }

    private static void rings() {
        Due.sentence(5, "A wire LEANS on names in its LINE, and on what wires among these lean on. RING: the least wire that leans on itself.");
        for (int wire = 6; wire <= 14; wire++) {
            char w = Due.letter(wire);
            Due.due(w + " on itself", ring(w + "=" + w + ";", 0), wire);
            Due.due(w + " on no wire", ring(w + "=a;", 0), NONE);
            Due.due(w + " by a register", ring(w + "=p;p=" + w + ";", 0), NONE);
            for (int other = wire + 1; other <= 14; other++) {
                char v = Due.letter(other);
                Due.due("both on one another", ring(v + "=" + w + "~;" + w + "=" + v + ";", 0), wire);
                Due.due("one on the other", ring(v + "=" + w + "~;" + w + "=a;", 0), NONE);
                Due.due("the least that leans on a RING is in none", ring(w + "=" + v + ";" + v + "=" + v + ";", 0), other);
                Due.due("two RINGS", ring(v + "=" + v + ";" + w + "=" + w + ";", 0), wire);
            }
        }
        for (int many = 1; many <= 9; many++) {
            StringBuilder round = new StringBuilder();
            StringBuilder row = new StringBuilder();
            for (int k = 0; k < many; k++) {
                char wire = (char) ('o' - k);
                char next = (char) ('o' - (k + 1) % many);
                round.append(wire).append('=').append(next).append(';');
                row.append(wire).append('=').append(k == many - 1 ? 'a' : next).append(';');
            }
            Due.due("a RING of " + many, ring(round.toString(), 0), 15 - many);
            Due.due("a row of " + many, ring(row.toString(), 0), NONE);
        }
        Due.due("a register on itself", ring("p=p;q=r;r=q;", 0), NONE);
        Due.due("empty", ring("", 0), NONE);
        Due.due("by one TOKEN of many", ring("g=abcdh&&&&;h=0g&;", 0), 6);
    }

    private static void lacks() {
        Due.sentence(5, "LACK: the least wire that is in some LINE, but has none.");
        for (int wire = 6; wire <= 14; wire++) {
            char w = Due.letter(wire);
            Due.due(w + " in a register's LINE", ring("p=" + w + ";", 1), wire);
            Due.due(w + " has one", ring("p=" + w + ";" + w + "=a;", 1), NONE);
            Due.due(w + " has one and is in none", ring(w + "=a;", 1), NONE);
            Due.due(w + " in its own LINE alone", ring(w + "=" + w + ";", 1), NONE);
            for (int other = wire + 1; other <= 14; other++) {
                Due.due("the least of two", ring("p=" + Due.letter(other) + ";q=" + w + ";", 1), wire);
            }
        }
        Due.due("inputs, registers never lack", ring("g=abcdefpqrs&&&&&&&&&;", 1), NONE);
        Due.due("empty", ring("", 1), NONE);
        Due.due("a RING is no LACK", ring("g=h;h=g;", 1), NONE);
        Due.due("a LACK is no RING", ring("g=h;", 0), NONE);
        Due.due("a LACK beside a RING", ring("g=h;h=go&;", 1), 14);
        Due.due("a RING beside a LACK", ring("g=h;h=go&;", 0), 6);
    }

    // ---- promise 6

    private static void building() {
        Due.sentence(6, "BUILT is a TEXT without FAULT, RING, LACK (an empty one is): the VIEW is it then; at first both are empty.");
        StringBuilder text = new StringBuilder();
        for (int many = 0; many <= 13; many++) {
            for (int view = 0; view < 2; view++) {
                WishToChip x = Due.told(view, text.toString());
                Due.due("build of " + many + " LINES", x.build(view), many);
                Due.due("LINES of the VIEW", x.count(2 + view), many);
                Due.due("LINES of the other one", x.count(3 - view), 0);
                Due.due("THE TEXT stays", x.count(view), 4 * many);
                x.clear(view);
                Due.due("build of an empty one", x.build(view), 0);
                Due.due("the VIEW is empty then", x.count(2 + view), 0);
            }
            text.append((char) ('g' + many)).append("=a;");
        }
        WishToChip x = Due.told(0, "g=a;");
        Due.due("ahead of build", x.count(2), 0);
        Due.due("build", x.build(0), 1);
        Due.put(x, 0, "h=b;");
        Due.due("the VIEW is not what comes behind", x.count(2), 1);
        Due.due("build again", x.build(0), 2);
    }

    private static void registersAgain() {
        Due.sentence(6, "BUILT: how many LINES (registers x again, if it is THE WISH).");
        WishToChip x = Due.built("p=a;", "");
        x.state(0x55);
        x.step(0, 0);
        Due.due("THE NET", x.build(1), 0);
        Due.due("registers stay", x.state(0x54), 0x54);
        Due.due("the same TEXT again", x.build(0), 1);
        Due.due("registers are x", x.state(0), 0xAA);
        Due.put(x, 0, "q");
        Due.due("a FAULT", x.build(0), NO);
        Due.due("registers stay", x.state(0), 0);
        Due.retell(x, 0, "");
        Due.due("an empty one", x.build(0), 0);
        Due.due("registers are x", x.state(0), 0xAA);
        Due.sentence(6, "A register without a LINE stays as it is.");
        WishToChip y = Due.built("", "");
        for (int v : new int[] {0, 0x55, 0xAA, 0x19, 0x64}) {
            y.state(v);
            Due.due("step from " + v, y.step(63, 0), v);
        }
    }

    // ---- promise 7

    private static void lines() {
        Due.sentence(7, "Of a name's LINE in a VIEW as BUILT:");
        WishToChip since = Due.built("g=ab&;", "");
        Due.put(since, 0, "h=g~;");
        Due.due("a LINE told since", since.line(0, 7, 0), NONE);
        Due.due("g is no TOKEN yet", since.line(0, 6, 2), 0);
        since.clear(0);
        Due.due("g is still BUILT", since.line(0, 6, 0), 3);
        Due.retell(since, 0, "g=g;");
        Due.due("what may not be BUILT", since.build(0), NO);
        Due.due("g is still BUILT", since.line(0, 6, 1), Due.bits("ab"));
        Due.sentence(7, "0 how many TOKENS, 1 names it leans on through wires (bits), 2 how often it is a TOKEN in the VIEW");
        WishToChip least = Due.built("g=0;", "");
        Due.due("least TOKENS", least.line(0, 6, 0), 1);
        Due.due("leans on nothing", least.line(0, 6, 1), 0);
        Due.due("never a TOKEN", least.line(0, 6, 2), 0);
        WishToChip most = Due.built("", "s=a" + "~".repeat(196) + ";");
        Due.due("most TOKENS", most.line(1, 18, 0), 197);
        WishToChip often = Due.built("g=0;h=g" + "g&".repeat(96) + ";", "g=1;");
        Due.due("most often", often.line(0, 6, 2), 97);
        Due.due("not in the other VIEW", often.line(1, 6, 2), 0);
        StringBuilder all = new StringBuilder("p=a");
        for (int name = 1; name <= 18; name++) all.append(Due.letter(name)).append('&');
        all.append(';');
        for (int wire = 6; wire <= 14; wire++) all.append(Due.letter(wire)).append("=0;");
        Due.due("leans on all names", Due.built(all.toString(), "").line(0, 15, 1), 0x7FFFF);
        WishToChip row = Due.built("", "s=g;g=h;h=i;i=j;j=k;k=l;l=m;m=n;n=o;o=ap&;p=b;");
        Due.due("through nine wires, not through a register", row.line(1, 18, 1), Due.bits("ghijklmnoap"));
        Due.due("the last of them", row.line(1, 14, 1), Due.bits("ap"));
        Due.due("a register", row.line(1, 15, 1), Due.bits("b"));
        Due.due("how often a register is a TOKEN", row.line(1, 15, 2), 1);
        for (int name = 6; name <= 18; name++) {
            Due.due("names 6 to 18", row.line(1, name, 0), "qr".indexOf(Due.letter(name)) >= 0 ? NONE : name == 14 ? 3 : 1);
        }
    }
}
