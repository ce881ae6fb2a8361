import java.util.Arrays;

/**
 * From wish to chip: small circuits told as LINES of postfix TOKENS, one TEXT for THE WISH and one for THE NET;
 * stepped, compared, priced, timed, laid on PLACES, and tried for STUCK names. The words in capitals are the
 * document's.
 */
public final class WishToChip {
    public static final int BAD = -1, NO = -2, FULL = -3, NONE = -4;

    private static final int WISH = 0, NET = 1;

    private static final int INPUTS = 6;
    private static final int FIRST_WIRE = 6;
    private static final int FIRST_REGISTER = 15;
    private static final int REGISTERS = 4;
    private static final int NAMES = 19;
    private static final int MOST_LINES = 13;
    /** The names that may have LINES, and the wires among them, as bits. */
    private static final int LINE_BITS = 0x7FFC0, WIRE_BITS = 0x7FC0;

    /** What a TOKEN is: below NAMES the name, else one of these. */
    private static final int ZERO = 19, ONE = 20, NOT = 21, AND = 22, OR = 23, XOR = 24, CHOOSE = 25;

    private static final int MOST_BYTES = 200;
    private static final int MOST_VALUES = 10;
    /** A slot is told in four bits, and a gate looks at most two further: no slot leads outside these. */
    private static final int SLOTS = 18;

    private static final int ROWS = 1024;
    /** One state's ROWS are as many as a long has bits: the ROW is the state times this, and the inputs. */
    private static final int ROWS_OF_STATE = 64;
    private static final int STATES = 16;
    private static final int FAULTS = 38;

    private static final int CORNERS = 3;
    private static final int NO_SLACK = -10000, BAD_WORST = -10001, BAD_SEEN = -100;
    private static final int MOST_KEPT = 2;

    private final Text[] texts = {new Text(), new Text()};
    private final View[] views = {new View(), new View()};
    private final Reader reader = new Reader();
    private final Steps steps = new Steps();
    private final Lanes lanes = new Lanes();
    private final Lanes otherLanes = new Lanes();
    private final Lanes stuckLanes = new Lanes();
    private final Gates gates = new Gates();
    private final Covers covers = new Covers();
    private final Times times = new Times();
    private final Floor floor = new Floor();
    private final Trials trials = new Trials();
    private final Kept[] kept = {new Kept(), new Kept()};
    private int keptCount = 0;
    private int startState = 0;
    private int endBits = LINE_BITS;

    public WishToChip() {
    }

    // ---- texts

    public int write(int view, int n, long v) {
        if (!isView(view) || n < 1 || n > 8) {
            return BAD;
        }
        return texts[view].append(n, v);
    }

    public int clear(int view) {
        if (!isView(view)) {
            return BAD;
        }
        int was = texts[view].length;
        texts[view].length = 0;
        return was;
    }

    public int fault(int view) {
        if (!isView(view)) {
            return BAD;
        }
        return reader.read(texts[view]);
    }

    public int ring(int view, int what) {
        if (!isView(view) || what < 0 || what > 1) {
            return BAD;
        }
        if (reader.read(texts[view]) != NONE) {
            return NO;
        }
        return what == 0 ? reader.draft.leastInRing() : reader.draft.leastLacking();
    }

    public int build(int view) {
        if (!isView(view)) {
            return BAD;
        }
        if (!reader.readsSound(texts[view])) {
            return NO;
        }
        views[view].become(reader.draft);
        if (view == WISH) {
            steps.restart();
        }
        return views[view].lines;
    }

    public int line(int view, int name, int what) {
        if (!isView(view) || !mayHaveLine(name) || what < 0 || what > 2) {
            return BAD;
        }
        View told = views[view];
        if (!told.hasLine(name)) {
            return NONE;
        }
        if (what == 0) {
            return told.to[name] - told.from[name];
        }
        return what == 1 ? told.leans[name] : told.uses[name];
    }

    // ---- steps, truth

    public int state(int v) {
        if (!Steps.areRegisters(v)) {
            return BAD;
        }
        int was = steps.registers;
        steps.registers = v;
        return was;
    }

    public int step(int inputs, int unknown) {
        if (!isBelow(inputs, 1 << INPUTS) || !isBelow(unknown, 1 << INPUTS)) {
            return BAD;
        }
        return steps.take(views[WISH], inputs, unknown);
    }

    public int value(int name) {
        if (!isBelow(name, NAMES)) {
            return BAD;
        }
        return steps.taken == 0 ? NO : steps.last[name];
    }

    public int truth(int view, int name, int row) {
        if (!isView(view) || !isBelow(name, NAMES) || !isBelow(row, ROWS)) {
            return BAD;
        }
        lanes.runRow(views[view], row);
        return (int) (lanes.shown[name] & 1L);
    }

    public int ones(int view, int name) {
        if (!isView(view) || !isBelow(name, NAMES)) {
            return BAD;
        }
        int ones = 0;
        for (int state = 0; state < STATES; state++) {
            lanes.runState(views[view], state);
            ones += Long.bitCount(lanes.shown[name]);
        }
        return ones;
    }

    public int start(int v) {
        if (!isBelow(v, STATES)) {
            return BAD;
        }
        int was = startState;
        startState = v;
        return was;
    }

    public int states() {
        return lanes.statesFrom(views[WISH], startState);
    }

    public int differ(int name) {
        if (!mayHaveLine(name)) {
            return BAD;
        }
        int reached = lanes.statesFrom(views[WISH], startState);
        for (int state = 0; state < STATES; state++) {
            if (hasBit(reached, state)) {
                lanes.runState(views[WISH], state);
                otherLanes.runState(views[NET], state);
                long unlike = lanes.unlike(otherLanes, 1 << name);
                if (unlike != 0) {
                    return leastRow(state, unlike);
                }
            }
        }
        return NONE;
    }

    public int touched() {
        if (!reader.readsSound(texts[WISH])) {
            return NO;
        }
        int touched = 0;
        for (int state = 0; state < STATES; state++) {
            lanes.runState(views[WISH], state);
            otherLanes.runState(reader.draft, state);
            for (int name = FIRST_WIRE; name < NAMES; name++) {
                if (lanes.unlike(otherLanes, 1 << name) != 0) {
                    touched |= 1 << name;
                }
            }
        }
        return touched;
    }

    // ---- gates, times

    public int gate(int kind, int what, int v) {
        if (!isBelow(kind, Gates.KINDS) || what < 0 || what > 1) {
            return BAD;
        }
        int[] told = what == 0 ? gates.prices : gates.delays;
        if (v < 1 || v > (what == 0 ? Gates.MOST_PRICE : Gates.MOST_DELAY)) {
            return BAD;
        }
        int was = told[kind];
        told[kind] = v;
        return was;
    }

    public int rule(int what, int v) {
        if (!Gates.isRule(what, v)) {
            return BAD;
        }
        return gates.changeRule(what, v);
    }

    public int cover(int view, int name) {
        if (!isView(view) || name != -1 && !mayHaveLine(name)) {
            return BAD;
        }
        if (name == -1) {
            return covers.ofAll(views[view], gates.prices);
        }
        return views[view].hasLine(name) ? covers.ofLine(views[view], name, gates.prices) : NONE;
    }

    public int arrival(int view, int name, int corner) {
        if (!isView(view) || !isBelow(name, NAMES) || !isBelow(corner, CORNERS)) {
            return BAD;
        }
        times.find(views[view], gates, corner);
        return times.arrives[name];
    }

    public int worst(int view, int corner, int i) {
        if (!isView(view) || !isBelow(corner, CORNERS) || i < -2) {
            return BAD_WORST;
        }
        times.find(views[view], gates, corner);
        int name = times.latest(views[view]);
        if (i == -2) {
            return name == NONE ? NO_SLACK : gates.clock() - times.arrives[name];
        }
        if (name == NONE || i == -1) {
            return name;
        }
        return times.nameOnWay(name, i);
    }

    // ---- places

    public int block() {
        return floor.addBlock();
    }

    public int net(int blocks) {
        if (!floor.areBlocks(blocks) || Integer.bitCount(blocks) < 2) {
            return BAD;
        }
        return floor.addNet(blocks);
    }

    public int place(int block, int place) {
        if (!isBelow(block, floor.blocks) || !isBelow(place, Floor.PLACES)) {
            return BAD;
        }
        return floor.move(block, place);
    }

    public int wire(int net) {
        if (net == -1) {
            return floor.wireOfAll();
        }
        return isBelow(net, floor.nets) ? floor.wireOf(net) : BAD;
    }

    public int least(int block) {
        if (block != -1 && !isBelow(block, floor.blocks)) {
            return BAD;
        }
        floor.findLeast();
        return block == -1 ? floor.leastWire : floor.leastPlaces[block];
    }

    public int swap() {
        return floor.swapWhileItHelps();
    }

    // ---- trials

    public int ends(int v) {
        if ((v & ~LINE_BITS) != 0) {
            return BAD;
        }
        int was = endBits;
        endBits = v;
        return was;
    }

    public int fails(int fault, int row) {
        if (!isBelow(fault, FAULTS) || !isBelow(row, ROWS)) {
            return BAD;
        }
        trials.make(views[NET], endBits, row);
        return trials.failsOf(fault);
    }

    public int finds(int fault) {
        if (!isBelow(fault, FAULTS)) {
            return BAD;
        }
        View told = views[NET];
        stuckLanes.stickOne(fault >> 1, fault & 1);
        for (int state = 0; state < STATES; state++) {
            lanes.runState(told, state);
            stuckLanes.runState(told, state);
            long unlike = lanes.unlike(stuckLanes, endBits & told.told);
            if (unlike != 0) {
                return leastRow(state, unlike);
            }
        }
        return NONE;
    }

    public int trial(int row) {
        if (!isBelow(row, ROWS)) {
            return BAD;
        }
        return trials.add(row);
    }

    public int noTrials() {
        int were = trials.size;
        trials.size = 0;
        return were;
    }

    public int fewest(int what) {
        if (what < 0 || what > 1) {
            return BAD;
        }
        long found = trials.findAll(views[NET], endBits);
        return what == 0 ? Long.bitCount(found) : trials.leastSet(found);
    }

    public int see(int i, int fails) {
        if (!isBelow(i, trials.size) || fails != Trials.NOT_SEEN && (fails & ~LINE_BITS) != 0) {
            return BAD_SEEN;
        }
        int was = trials.seen[i];
        trials.seen[i] = fails;
        return was;
    }

    public int could(int i) {
        if (i < -1) {
            return BAD;
        }
        long could = trials.thatCouldBe(views[NET], endBits);
        return i == -1 ? Long.bitCount(could) : Trials.bitNumber(could, i);
    }

    public int parts() {
        return trials.bestToPart(views[NET], endBits);
    }

    public int keep() {
        if (keptCount >= MOST_KEPT) {
            return FULL;
        }
        Kept next = kept[keptCount];
        next.wish.become(views[WISH]);
        next.net.become(views[NET]);
        next.registers = steps.registers;
        next.startState = startState;
        next.endBits = endBits;
        keptCount++;
        return keptCount;
    }

    public int back() {
        if (keptCount <= 0) {
            return NO;
        }
        keptCount--;
        Kept last = kept[keptCount];
        views[WISH].become(last.wish);
        views[NET].become(last.net);
        steps.registers = last.registers;
        startState = last.startState;
        endBits = last.endBits;
        return keptCount;
    }

    public int count(int what) {
        switch (what) {
            case 0: return texts[WISH].length;
            case 1: return texts[NET].length;
            case 2: return views[WISH].lines;
            case 3: return views[NET].lines;
            case 4: return floor.blocks;
            case 5: return floor.nets;
            case 6: return trials.size;
            case 7: return keptCount;
            case 8: return steps.taken;
            default: return BAD;
        }
    }

    // ---- small tests

    private static boolean isBelow(int number, int bound) {
        return number >= 0 && number < bound;
    }

    private static boolean isView(int view) {
        return view == WISH || view == NET;
    }

    private static boolean mayHaveLine(int name) {
        return name >= FIRST_WIRE && name < NAMES;
    }

    private static boolean isWire(int name) {
        return name >= FIRST_WIRE && name < FIRST_REGISTER;
    }

    private static boolean hasBit(int bits, int k) {
        return (bits >> k & 1) != 0;
    }

    private static int leastRow(int state, long rowsOfState) {
        return state * ROWS_OF_STATE + Long.numberOfTrailingZeros(rowsOfState);
    }

    // ---- TOKENS: what one is and the slot of its value, in one number

    private static int tokenOf(int kind, int slot) {
        return kind | slot << 5;
    }

    private static int kindOf(int token) {
        return token & 31;
    }

    private static int slotOf(int token) {
        return token >> 5 & 15;
    }

    /** The bytes of one TEXT, as they were written. */
    private static final class Text {
        final int[] bytes = new int[MOST_BYTES];
        int length = 0;

        int append(int n, long v) {
            if (n > MOST_BYTES - length) {
                return FULL;
            }
            for (int k = n - 1; k >= 0; k--) {
                bytes[length] = (int) (v >>> 8 * k) & 255;
                length++;
            }
            return length;
        }
    }

    /** The LINES of a TEXT that could be read. */
    private static final class View {
        final int[] tokens = new int[MOST_BYTES];
        final int[] from = new int[NAMES];
        final int[] to = new int[NAMES];
        /** The names that a name's LINE leans on, as bits. */
        final int[] leans = new int[NAMES];
        final int[] uses = new int[NAMES];
        /** The names that have LINES, each behind all wires that it leans on, the registers last. */
        final int[] order = new int[MOST_LINES];
        int told = 0;
        int lines = 0;

        boolean hasLine(int name) {
            return hasBit(told, name);
        }

        /** Where TOKENS lie and in which order is told anew with each LINE, and not looked at without one. */
        void forget() {
            told = 0;
            Arrays.fill(leans, 0);
            Arrays.fill(uses, 0);
        }

        void become(View other) {
            System.arraycopy(other.tokens, 0, tokens, 0, MOST_BYTES);
            System.arraycopy(other.from, 0, from, 0, NAMES);
            System.arraycopy(other.to, 0, to, 0, NAMES);
            System.arraycopy(other.leans, 0, leans, 0, NAMES);
            System.arraycopy(other.uses, 0, uses, 0, NAMES);
            System.arraycopy(other.order, 0, order, 0, MOST_LINES);
            told = other.told;
            lines = other.lines;
        }

        /** From the names in each LINE to all that it leans on. */
        void leanThroughWires() {
            for (int wire = FIRST_WIRE; wire < FIRST_REGISTER; wire++) {
                for (int name = FIRST_WIRE; name < NAMES; name++) {
                    if (hasBit(leans[name], wire)) {
                        leans[name] |= leans[wire];
                    }
                }
            }
        }

        int leastInRing() {
            for (int wire = FIRST_WIRE; wire < FIRST_REGISTER; wire++) {
                if (hasBit(leans[wire], wire)) {
                    return wire;
                }
            }
            return NONE;
        }

        int leastLacking() {
            for (int wire = FIRST_WIRE; wire < FIRST_REGISTER; wire++) {
                if (uses[wire] > 0 && !hasLine(wire)) {
                    return wire;
                }
            }
            return NONE;
        }

        /** Without a RING a wire leans on more wires than each of these does: their number gives the order. */
        void putInOrder() {
            lines = 0;
            for (int depth = 0; depth < FIRST_REGISTER - FIRST_WIRE; depth++) {
                for (int wire = FIRST_WIRE; wire < FIRST_REGISTER; wire++) {
                    if (Integer.bitCount(leans[wire] & WIRE_BITS) == depth) {
                        orderNext(wire);
                    }
                }
            }
            for (int register = FIRST_REGISTER; register < NAMES; register++) {
                orderNext(register);
            }
        }

        private void orderNext(int name) {
            if (hasLine(name) && lines < MOST_LINES) {
                order[lines] = name;
                lines++;
            }
        }
    }

    /** Reads a TEXT into a draft of a VIEW, byte by byte, up to the FAULT. */
    private static final class Reader {
        private static final int LETTER = 0, EQUALS = 1, TOKENS = 2;

        final View draft = new View();
        private int awaited = LETTER;
        private int name = FIRST_WIRE;
        private int size = 0;
        private int values = 0;

        /** The FAULT, or NONE: only then is the draft whole. */
        int read(Text text) {
            draft.forget();
            awaited = LETTER;
            size = 0;
            for (int i = 0; i < text.length; i++) {
                if (!takes(text.bytes[i])) {
                    return i;
                }
            }
            if (awaited != LETTER) {
                return text.length;
            }
            draft.leanThroughWires();
            return NONE;
        }

        /** Whether the TEXT may be BUILT: then the draft is it. */
        boolean readsSound(Text text) {
            if (read(text) != NONE || draft.leastInRing() != NONE || draft.leastLacking() != NONE) {
                return false;
            }
            draft.putInOrder();
            return true;
        }

        private boolean takes(int sign) {
            if (awaited == LETTER) {
                return takesLetter(sign - 'a');
            }
            if (awaited == EQUALS) {
                awaited = TOKENS;
                return sign == '=';
            }
            return sign == ';' ? takesEnd() : takesToken(kindOfSign(sign));
        }

        private boolean takesLetter(int letter) {
            if (!mayHaveLine(letter) || draft.hasLine(letter)) {
                return false;
            }
            name = letter;
            draft.told |= 1 << name;
            draft.from[name] = size;
            values = 0;
            awaited = EQUALS;
            return true;
        }

        private boolean takesEnd() {
            draft.to[name] = size;
            awaited = LETTER;
            return values == 1;
        }

        private boolean takesToken(int kind) {
            int slot = values - valuesTaken(kind);
            if (kind == NONE || slot < 0 || slot >= MOST_VALUES || size >= MOST_BYTES) {
                return false;
            }
            draft.tokens[size] = tokenOf(kind, slot);
            size++;
            values = slot + 1;
            if (kind < NAMES) {
                draft.uses[kind]++;
                draft.leans[name] |= 1 << kind;
            }
            return true;
        }

        private static int valuesTaken(int kind) {
            switch (kind) {
                case NOT: return 1;
                case AND: return 2;
                case OR: return 2;
                case XOR: return 2;
                case CHOOSE: return 3;
                default: return 0;
            }
        }

        private static int kindOfSign(int sign) {
            switch (sign) {
                case '0': return ZERO;
                case '1': return ONE;
                case '~': return NOT;
                case '&': return AND;
                case '|': return OR;
                case '^': return XOR;
                case '?': return CHOOSE;
                default: return isBelow(sign - 'a', NAMES) ? sign - 'a' : NONE;
            }
        }
    }

    /** THE WISH as it is STEPPED, with x told as 2. */
    private static final class Steps {
        private static final int X = 2;
        private static final int ALL_X = 0xAA;

        final int[] last = new int[NAMES];
        private final int[] slots = new int[SLOTS];
        /** Two bits for each register, as state() tells them. */
        int registers = ALL_X;
        int taken = 0;

        static boolean areRegisters(int v) {
            return isBelow(v, 256) && (v & v >> 1 & 0x55) == 0;
        }

        void restart() {
            registers = ALL_X;
            taken = 0;
        }

        int take(View wish, int inputs, int unknown) {
            for (int k = 0; k < INPUTS; k++) {
                last[k] = hasBit(unknown, k) ? X : inputs >> k & 1;
            }
            for (int wire = FIRST_WIRE; wire < FIRST_REGISTER; wire++) {
                last[wire] = X;
            }
            for (int r = 0; r < REGISTERS; r++) {
                last[FIRST_REGISTER + r] = registers >> 2 * r & 3;
            }
            for (int i = 0; i < wish.lines; i++) {
                int name = wish.order[i];
                int made = make(wish, name);
                if (isWire(name)) {
                    last[name] = made;
                } else {
                    int bit = 2 * (name - FIRST_REGISTER);
                    registers = registers & ~(3 << bit) | made << bit;
                }
            }
            taken++;
            return registers;
        }

        private int make(View wish, int name) {
            for (int i = wish.from[name]; i < wish.to[name]; i++) {
                int kind = kindOf(wish.tokens[i]);
                int slot = slotOf(wish.tokens[i]);
                slots[slot] = kind < NAMES ? last[kind]
                        : gateOf(kind, slots[slot], slots[slot + 1], slots[slot + 2]);
            }
            return slots[0];
        }

        private static int gateOf(int kind, int a, int b, int c) {
            switch (kind) {
                case ONE: return 1;
                case NOT: return turned(a);
                case AND: return both(a, b);
                case OR: return turned(both(turned(a), turned(b)));
                case XOR: return a == X || b == X ? X : a ^ b;
                case CHOOSE: return chosen(a, b, c);
                default: return 0;
            }
        }

        private static int turned(int a) {
            return a == X ? X : 1 - a;
        }

        private static int both(int a, int b) {
            if (a == 0 || b == 0) {
                return 0;
            }
            return a == X || b == X ? X : 1;
        }

        private static int chosen(int chooser, int middle, int top) {
            if (chooser == X) {
                return middle == top ? middle : X;
            }
            return chooser == 1 ? middle : top;
        }
    }

    /** A VIEW run in 64 lanes at once: a state's ROWS, or one ROW with each FAULT. */
    private static final class Lanes {
        /** Input k in the ROWS of a state: bit i of it is bit k of i. */
        private static final long[] INPUT_LANES = {
            0xAAAAAAAAAAAAAAAAL, 0xCCCCCCCCCCCCCCCCL, 0xF0F0F0F0F0F0F0F0L,
            0xFF00FF00FF00FF00L, 0xFFFF0000FFFF0000L, 0xFFFFFFFF00000000L
        };

        /** What a LINE finds at a name, STUCK where it is. */
        private final long[] used = new long[NAMES];
        /** What a name shows: its VALUE, a register's NEXT. */
        final long[] shown = new long[NAMES];
        private final long[] stuckAt0 = new long[NAMES];
        private final long[] stuckAt1 = new long[NAMES];
        private final long[] slots = new long[SLOTS];

        /** One name is STUCK in all lanes, no other. */
        void stickOne(int name, int v) {
            Arrays.fill(stuckAt0, 0L);
            Arrays.fill(stuckAt1, 0L);
            if (isBelow(name, NAMES)) {
                stuckAt0[name] = v == 0 ? -1L : 0L;
                stuckAt1[name] = v == 0 ? 0L : -1L;
            }
        }

        /** Each lane has the FAULT of its number; those behind the last FAULT have none. */
        void stickEachInItsLane() {
            for (int name = 0; name < NAMES; name++) {
                stuckAt0[name] = 1L << 2 * name;
                stuckAt1[name] = 2L << 2 * name;
            }
        }

        void runState(View view, int state) {
            for (int k = 0; k < INPUTS; k++) {
                shown[k] = INPUT_LANES[k];
            }
            for (int r = 0; r < REGISTERS; r++) {
                shown[FIRST_REGISTER + r] = inAllLanes(state >> r);
            }
            run(view);
        }

        void runRow(View view, int row) {
            for (int k = 0; k < INPUTS; k++) {
                shown[k] = inAllLanes(row >> k);
            }
            for (int r = 0; r < REGISTERS; r++) {
                shown[FIRST_REGISTER + r] = inAllLanes(row >> INPUTS + r);
            }
            run(view);
        }

        private static long inAllLanes(int bit) {
            return -(long) (bit & 1);
        }

        private void run(View view) {
            for (int name = 0; name < NAMES; name++) {
                if (isWire(name)) {
                    shown[name] = 0L;
                }
                used[name] = stuck(name, shown[name]);
            }
            for (int i = 0; i < view.lines; i++) {
                int name = view.order[i];
                long made = make(view, name);
                if (isWire(name)) {
                    made = stuck(name, made);
                    used[name] = made;
                }
                shown[name] = made;
            }
        }

        private long stuck(int name, long v) {
            return v & ~stuckAt0[name] | stuckAt1[name];
        }

        private long make(View view, int name) {
            for (int i = view.from[name]; i < view.to[name]; i++) {
                int kind = kindOf(view.tokens[i]);
                int slot = slotOf(view.tokens[i]);
                slots[slot] = kind < NAMES ? used[kind]
                        : gateOf(kind, slots[slot], slots[slot + 1], slots[slot + 2]);
            }
            return slots[0];
        }

        private static long gateOf(int kind, long a, long b, long c) {
            switch (kind) {
                case ONE: return -1L;
                case NOT: return ~a;
                case AND: return a & b;
                case OR: return a | b;
                case XOR: return a ^ b;
                case CHOOSE: return a & b | ~a & c;
                default: return 0L;
            }
        }

        /** The lanes in which one of these names shows otherwise in the other one. */
        long unlike(Lanes other, int names) {
            long unlike = 0L;
            for (int name = 0; name < NAMES; name++) {
                if (hasBit(names, name)) {
                    unlike |= shown[name] ^ other.shown[name];
                }
            }
            return unlike;
        }

        /** STATES that can be: each round takes up what the one before it reached. */
        int statesFrom(View wish, int first) {
            int reached = 1 << first;
            int done = 0;
            for (int round = 0; round < STATES && done != reached; round++) {
                int fresh = reached & ~done;
                done = reached;
                for (int state = 0; state < STATES; state++) {
                    if (hasBit(fresh, state)) {
                        runState(wish, state);
                        reached |= statesShown();
                    }
                }
            }
            return reached;
        }

        private int statesShown() {
            int states = 0;
            for (int state = 0; state < STATES; state++) {
                long there = -1L;
                for (int r = 0; r < REGISTERS; r++) {
                    there &= ~(shown[FIRST_REGISTER + r] ^ inAllLanes(state >> r));
                }
                if (there != 0L) {
                    states |= 1 << state;
                }
            }
            return states;
        }
    }

    /** PRICES, DELAYS, and the rules of times. */
    private static final class Gates {
        static final int KINDS = 7, MOST_PRICE = 100, MOST_DELAY = 50;
        private static final int LOAD = 3, CLOCK = 4;
        private static final int[] LEAST_RULE = {50, 50, 50, 0, 1};
        private static final int[] MOST_RULE = {300, 300, 300, 9, 500};

        final int[] prices = {1, 3, 3, 2, 2, 5, 6};
        final int[] delays = {1, 2, 2, 1, 1, 3, 3};
        /** The FACTORS of the CORNERS, LOAD and CLOCK. */
        private final int[] rules = {100, 80, 130, 1, 20};

        static boolean isRule(int what, int v) {
            return isBelow(what, LEAST_RULE.length) && v >= LEAST_RULE[what] && v <= MOST_RULE[what];
        }

        int changeRule(int what, int v) {
            int was = rules[what];
            rules[what] = v;
            return was;
        }

        int load() {
            return rules[LOAD];
        }

        int clock() {
            return rules[CLOCK];
        }

        /** What the gate of a TOKEN takes, rounded up. */
        int takes(int token, int corner) {
            return (delays[gateFor(token)] * rules[corner] + 99) / 100;
        }

        private static int gateFor(int token) {
            switch (token) {
                case AND: return 1;
                case OR: return 2;
                case XOR: return 5;
                case CHOOSE: return 6;
                default: return 0;
            }
        }
    }

    /** THE COVER: for each slot the least PRICE of its value as it is, and turned. */
    private static final class Covers {
        private final int[] plain = new int[SLOTS];
        private final int[] turned = new int[SLOTS];

        int ofAll(View view, int[] prices) {
            int all = 0;
            for (int i = 0; i < view.lines; i++) {
                all += ofLine(view, view.order[i], prices);
            }
            return all;
        }

        int ofLine(View view, int name, int[] prices) {
            for (int i = view.from[name]; i < view.to[name]; i++) {
                int slot = slotOf(view.tokens[i]);
                coverToken(kindOf(view.tokens[i]), slot, prices);
                plain[slot] = Math.min(plain[slot], turned[slot] + prices[0]);
                turned[slot] = Math.min(turned[slot], plain[slot] + prices[0]);
            }
            return plain[0];
        }

        private void coverToken(int kind, int slot, int[] prices) {
            int bothPlain = plain[slot] + plain[slot + 1];
            int bothTurned = turned[slot] + turned[slot + 1];
            switch (kind) {
                case ZERO:
                case ONE:
                    put(slot, 0, 0);
                    break;
                case NOT:
                    put(slot, turned[slot], plain[slot]);
                    break;
                case AND:
                    put(slot, Math.min(prices[1] + bothPlain, prices[4] + bothTurned),
                            Math.min(prices[3] + bothPlain, prices[2] + bothTurned));
                    break;
                case OR:
                    put(slot, Math.min(prices[2] + bothPlain, prices[3] + bothTurned),
                            Math.min(prices[4] + bothPlain, prices[1] + bothTurned));
                    break;
                case XOR:
                    int oneTurned = Math.min(plain[slot] + turned[slot + 1], turned[slot] + plain[slot + 1]);
                    put(slot, prices[5] + Math.min(bothPlain, bothTurned), prices[5] + oneTurned);
                    break;
                case CHOOSE:
                    int chooser = prices[6] + Math.min(plain[slot], turned[slot]);
                    put(slot, chooser + plain[slot + 1] + plain[slot + 2],
                            chooser + turned[slot + 1] + turned[slot + 2]);
                    break;
                default:
                    put(slot, 0, prices[0]);
                    break;
            }
        }

        private void put(int slot, int asItIs, int whenTurned) {
            plain[slot] = asItIs;
            turned[slot] = whenTurned;
        }
    }

    /** ARRIVALS of a VIEW at a CORNER, and by which TOKEN each LINE's comes. */
    private static final class Times {
        /** A LINE, nine wires, and the input or register at the end. */
        private static final int LONGEST_WAY = 11;

        final int[] arrives = new int[NAMES];
        /** What the TOKEN is by which a LINE's greatest comes. */
        private final int[] cause = new int[NAMES];
        private final int[] slotArrives = new int[SLOTS];
        private final int[] slotCause = new int[SLOTS];

        void find(View view, Gates gates, int corner) {
            Arrays.fill(arrives, 0);
            for (int i = 0; i < view.lines; i++) {
                int name = view.order[i];
                findLine(view, name, gates, corner);
                cause[name] = slotCause[0];
                arrives[name] = slotArrives[0] + (isWire(name) ? gates.load() * view.uses[name] : 0);
            }
        }

        private void findLine(View view, int name, Gates gates, int corner) {
            for (int i = view.from[name]; i < view.to[name]; i++) {
                int kind = kindOf(view.tokens[i]);
                int slot = slotOf(view.tokens[i]);
                if (kind <= ONE) {
                    // a register's own LINE may have been timed already: as a TOKEN it is there at 0
                    slotArrives[slot] = isWire(kind) ? arrives[kind] : 0;
                    slotCause[slot] = kind;
                } else {
                    takeLatest(kind, slot);
                    slotArrives[slot] += gates.takes(kind, corner);
                }
            }
        }

        /** Of several the first TOKEN: what lies higher came later, so it must be greater. */
        private void takeLatest(int kind, int slot) {
            int others = kind == NOT ? 0 : kind == CHOOSE ? 2 : 1;
            for (int k = 1; k <= others; k++) {
                if (slotArrives[slot + k] > slotArrives[slot]) {
                    slotArrives[slot] = slotArrives[slot + k];
                    slotCause[slot] = slotCause[slot + k];
                }
            }
        }

        /** All LINES have the same CLOCK: the least SLACK is that of the latest. */
        int latest(View view) {
            int latest = NONE;
            for (int name = FIRST_WIRE; name < NAMES; name++) {
                if (view.hasLine(name) && (latest == NONE || arrives[name] > arrives[latest])) {
                    latest = name;
                }
            }
            return latest;
        }

        int nameOnWay(int first, int i) {
            int name = first;
            for (int k = 0; k < i; k++) {
                boolean goesOn = k == 0 || isWire(name);
                if (!goesOn || k >= LONGEST_WAY || cause[name] >= NAMES) {
                    return NONE;
                }
                name = cause[name];
            }
            return name;
        }
    }

    /** BLOCKS on PLACES, and NETS of them. */
    private static final class Floor {
        static final int PLACES = 8;
        private static final int MOST_BLOCKS = 7, MOST_NETS = 8;
        /** More than all NETS together can have. */
        private static final int ENDLESS = 1000;
        /** By how many BLOCKS a NET has: no way to lay them has less WIRE. */
        private static final int[] LEAST_SPAN = {0, 0, 1, 2, 2, 3, 3, 4};

        private final int[] places = new int[MOST_BLOCKS];
        private final int[] netBlocks = new int[MOST_NETS];
        int blocks = 0;
        int nets = 0;

        final int[] leastPlaces = new int[MOST_BLOCKS];
        int leastWire = 0;
        private boolean leastKnown = false;
        private final int[] tried = new int[MOST_BLOCKS];
        /** The PLACES of each NET's BLOCKS that have been laid so far, as bits: none but while LEAST is looked for. */
        private final int[] netPlaces = new int[MOST_NETS];

        int addBlock() {
            if (blocks >= MOST_BLOCKS) {
                return FULL;
            }
            places[blocks] = Integer.numberOfTrailingZeros(~placesOf((1 << blocks) - 1));
            blocks++;
            leastKnown = false;
            return blocks - 1;
        }

        boolean areBlocks(int bits) {
            return isBelow(bits, 1 << blocks);
        }

        int addNet(int bits) {
            if (nets >= MOST_NETS) {
                return FULL;
            }
            netBlocks[nets] = bits;
            nets++;
            leastKnown = false;
            return nets;
        }

        int move(int block, int place) {
            int was = places[block];
            if (place != was && hasBit(placesOf((1 << blocks) - 1), place)) {
                return NO;
            }
            places[block] = place;
            return was;
        }

        private int placesOf(int bits) {
            int taken = 0;
            for (int block = 0; block < blocks; block++) {
                if (hasBit(bits, block)) {
                    taken |= 1 << places[block];
                }
            }
            return taken;
        }

        int wireOf(int net) {
            return span(placesOf(netBlocks[net]));
        }

        int wireOfAll() {
            int all = 0;
            for (int net = 0; net < nets; net++) {
                all += wireOf(net);
            }
            return all;
        }

        /** From the least to the greatest row and column of PLACES, told as bits. */
        private static int span(int bits) {
            int upper = bits & 15;
            int lower = bits >> 4 & 15;
            int columns = upper | lower;
            if (columns == 0) {
                return 0;
            }
            int greatest = 31 - Integer.numberOfLeadingZeros(columns);
            int width = greatest - Integer.numberOfTrailingZeros(columns);
            return upper != 0 && lower != 0 ? width + 1 : width;
        }

        /** Only BLOCKS and NETS change it, not where they lie: it is found once for these. */
        void findLeast() {
            if (leastKnown) {
                return;
            }
            leastWire = ENDLESS;
            layFrom(this, 0, 0);
            leastKnown = true;
        }

        /** Tries lower PLACES first, so that of several ways with as little WIRE the first found stays. */
        private static void layFrom(Floor floor, int block, int taken) {
            if (block >= floor.blocks || block >= MOST_BLOCKS) {
                floor.leastWire = floor.wireToCome();
                System.arraycopy(floor.tried, 0, floor.leastPlaces, 0, MOST_BLOCKS);
                return;
            }
            // a way has as much WIRE as the same one mirrored: BLOCK 0 of the lowest lies in the first two PLACES
            int bound = block == 0 ? 2 : PLACES;
            for (int place = 0; place < bound; place++) {
                if (!hasBit(taken, place)) {
                    floor.tried[block] = place;
                    floor.turnNetPlaces(block, place);
                    if (floor.wireToCome() < floor.leastWire) {
                        layFrom(floor, block + 1, taken | 1 << place);
                    }
                    floor.turnNetPlaces(block, place);
                }
            }
        }

        private void turnNetPlaces(int block, int place) {
            for (int net = 0; net < nets; net++) {
                if (hasBit(netBlocks[net], block)) {
                    netPlaces[net] ^= 1 << place;
                }
            }
        }

        /** No way that goes on from here has less: what is too much already need not be laid on. */
        private int wireToCome() {
            int all = 0;
            for (int net = 0; net < nets; net++) {
                all += Math.max(span(netPlaces[net]), LEAST_SPAN[Integer.bitCount(netBlocks[net]) & 7]);
            }
            return all;
        }

        /** WIRE grows less with each: there are no more of them than WIRE at first. */
        int swapWhileItHelps() {
            for (int swaps = 0; swaps < ENDLESS; swaps++) {
                if (!swapBest()) {
                    return swaps;
                }
            }
            return ENDLESS;
        }

        /** A pair without a BLOCK changes nothing, so it never helps and needs no test. */
        private boolean swapBest() {
            int least = wireOfAll();
            int bestLower = NONE;
            int bestUpper = NONE;
            for (int lower = 0; lower < PLACES; lower++) {
                for (int upper = lower + 1; upper < PLACES; upper++) {
                    exchange(lower, upper);
                    int all = wireOfAll();
                    exchange(lower, upper);
                    if (all < least) {
                        least = all;
                        bestLower = lower;
                        bestUpper = upper;
                    }
                }
            }
            exchange(bestLower, bestUpper);
            return bestLower != NONE;
        }

        private void exchange(int lower, int upper) {
            for (int block = 0; block < blocks; block++) {
                if (places[block] == lower) {
                    places[block] = upper;
                } else if (places[block] == upper) {
                    places[block] = lower;
                }
            }
        }
    }

    /** TRIALS of THE NET: each ROW is run once, with every FAULT in a lane of its own. */
    private static final class Trials {
        static final int NOT_SEEN = -1;
        private static final int MOST_TRIALS = 10;
        /** The lane behind the last FAULT's, in which nothing is STUCK: none at all, told as 38. */
        private static final int NO_FAULT = FAULTS;
        private static final long ALL_LANES = (1L << FAULTS + 1) - 1L;

        private final int[] rows = new int[MOST_TRIALS];
        final int[] seen = new int[MOST_TRIALS];
        int size = 0;
        private final long[] found = new long[MOST_TRIALS];
        private final Lanes bench = new Lanes();
        /** At each END the lanes that FAIL there in the ROW made last. */
        private final long[] failing = new long[NAMES];

        Trials() {
            bench.stickEachInItsLane();
        }

        int add(int row) {
            if (size >= MOST_TRIALS) {
                return FULL;
            }
            rows[size] = row;
            seen[size] = NOT_SEEN;
            size++;
            return size;
        }

        void make(View net, int ends, int row) {
            bench.runRow(net, row);
            for (int name = FIRST_WIRE; name < NAMES; name++) {
                long right = -(bench.shown[name] >>> NO_FAULT & 1L);
                boolean isEnd = hasBit(ends & net.told, name);
                failing[name] = isEnd ? (bench.shown[name] ^ right) & ALL_LANES : 0L;
            }
        }

        /** FAILS in the ROW made last. */
        int failsOf(int lane) {
            int fails = 0;
            for (int name = FIRST_WIRE; name < NAMES; name++) {
                fails |= (int) (failing[name] >>> lane & 1L) << name;
            }
            return fails;
        }

        /** The lanes whose FAILS are just these in the ROW made last. */
        private long lanesFailing(int fails) {
            long like = ALL_LANES;
            for (int name = FIRST_WIRE; name < NAMES; name++) {
                like &= hasBit(fails, name) ? failing[name] : ~failing[name];
            }
            return like;
        }

        /** FAULTS that some TRIAL finds; which each one finds is kept for leastSet. */
        long findAll(View net, int ends) {
            long all = 0L;
            for (int i = 0; i < size; i++) {
                make(net, ends, rows[i]);
                found[i] = ALL_LANES & ~lanesFailing(0);
                all |= found[i];
            }
            return all;
        }

        /** Sets come with rising bits, so only fewer TRIALS are better than what was found ahead. */
        int leastSet(long all) {
            int best = (1 << size) - 1;
            for (int set = 0; set < 1 << size; set++) {
                if (Integer.bitCount(set) < Integer.bitCount(best) && foundBy(set) == all) {
                    best = set;
                }
            }
            return best;
        }

        private long foundBy(int set) {
            long all = 0L;
            for (int i = 0; i < size; i++) {
                all |= hasBit(set, i) ? found[i] : 0L;
            }
            return all;
        }

        long thatCouldBe(View net, int ends) {
            long could = ALL_LANES;
            for (int i = 0; i < size; i++) {
                if (seen[i] != NOT_SEEN) {
                    make(net, ends, rows[i]);
                    could &= lanesFailing(seen[i]);
                }
            }
            return could;
        }

        int bestToPart(View net, int ends) {
            long could = thatCouldBe(net, ends);
            if (Long.bitCount(could) <= 1) {
                return NONE;
            }
            int best = NONE;
            int least = FAULTS + 2;
            for (int i = 0; i < size; i++) {
                if (seen[i] == NOT_SEEN) {
                    make(net, ends, rows[i]);
                    int greatest = greatestAlike(could);
                    if (greatest < least) {
                        least = greatest;
                        best = i;
                    }
                }
            }
            return best;
        }

        private int greatestAlike(long could) {
            int greatest = 0;
            long left = could;
            for (int lane = 0; lane <= NO_FAULT; lane++) {
                if ((left >>> lane & 1L) != 0L) {
                    long alike = left & lanesFailing(failsOf(lane));
                    greatest = Math.max(greatest, Long.bitCount(alike));
                    left &= ~alike;
                }
            }
            return greatest;
        }

        static int bitNumber(long bits, int i) {
            long left = bits;
            for (int k = 0; k < i && left != 0L; k++) {
                left &= left - 1L;
            }
            return left == 0L ? NONE : Long.numberOfTrailingZeros(left);
        }
    }

    /** What is KEPT at once. */
    private static final class Kept {
        final View wish = new View();
        final View net = new View();
        int registers = 0;
        int startState = 0;
        int endBits = 0;
    }
}
