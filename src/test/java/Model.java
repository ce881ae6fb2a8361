import java.util.ArrayList;
import java.util.Arrays;
import java.util.HashMap;
import java.util.List;
import java.util.Map;
import java.util.TreeMap;
import java.util.TreeSet;

/**
 * The document read once more, as slowly and plainly as can be: each LINE is a tree, each ROW is worked out by itself,
 * every way to lay BLOCKS is looked at. It shares no code and no trick with the program that it is held against.
 */
final class Model {
    static final int BAD = -1, NO = -2, FULL = -3, NONE = -4;

    /** A TOKEN with what it takes. */
    static final class Tree {
        char sign;
        int at;
        List<Tree> takes = new ArrayList<>();
    }

    /** A VIEW as it is BUILT: never changed, so it may be shared. */
    static final class Circuit {
        final TreeMap<Integer, Tree> lines = new TreeMap<>();
        final TreeMap<Integer, String> tokens = new TreeMap<>();
    }

    static final class Saved {
        Circuit[] views;
        int[] registers;
        int start;
        int ends;
    }

    private final StringBuilder[] texts = {new StringBuilder(), new StringBuilder()};
    private Circuit[] views = {new Circuit(), new Circuit()};
    private int[] registers = {2, 2, 2, 2};
    private int steps = 0;
    private int[] lastStep = null;
    private int start = 0;
    private int ends = 0x7FFC0;
    private final int[] price = {1, 3, 3, 2, 2, 5, 6};
    private final int[] delay = {1, 2, 2, 1, 1, 3, 3};
    private final int[] rules = {100, 80, 130, 1, 20};
    private final List<Integer> blockPlaces = new ArrayList<>();
    private final List<Integer> nets = new ArrayList<>();
    private final List<Integer> trialRows = new ArrayList<>();
    private final List<Integer> seen = new ArrayList<>();
    private final List<Saved> saved = new ArrayList<>();
    private String leastFor = "";
    private int[] leastLay = new int[0];
    private int leastWire = 0;

    // ---- texts

    int write(int view, int n, long v) {
        if (view < 0 || view > 1 || n < 1 || n > 8) return BAD;
        if (texts[view].length() + n > 200) return FULL;
        String all = "";
        for (int k = 0; k < n; k++) {
            all = (char) (v & 255) + all;
            v >>= 8;
        }
        return texts[view].append(all).length();
    }

    int clear(int view) {
        if (view < 0 || view > 1) return BAD;
        int was = texts[view].length();
        texts[view].setLength(0);
        return was;
    }

    /** The FAULT; the LINES go into the circuit. */
    private static int read(String text, Circuit into) {
        int at = 0;
        while (at < text.length()) {
            char name = text.charAt(at);
            if ("ghijklmnopqrs".indexOf(name) < 0 || into.lines.containsKey(name - 'a')) return at;
            at++;
            if (at == text.length() || text.charAt(at) != '=') return at;
            at++;
            int first = at;
            List<Tree> pile = new ArrayList<>();
            while (true) {
                if (at == text.length()) return at;
                char sign = text.charAt(at);
                if (sign == ';') break;
                int takes = "~".indexOf(sign) >= 0 ? 1 : "&|^".indexOf(sign) >= 0 ? 2 : sign == '?' ? 3
                        : "abcdefghijklmnopqrs01".indexOf(sign) >= 0 ? 0 : 99;
                if (pile.size() < takes || pile.size() - takes + 1 > 10) return at;
                Tree tree = new Tree();
                tree.sign = sign;
                tree.at = at - first;
                for (int k = 0; k < takes; k++) tree.takes.add(0, pile.remove(pile.size() - 1));
                pile.add(tree);
                at++;
            }
            if (pile.size() != 1) return at;
            into.lines.put(name - 'a', pile.get(0));
            into.tokens.put(name - 'a', text.substring(first, at));
            at++;
        }
        return NONE;
    }

    int fault(int view) {
        if (view < 0 || view > 1) return BAD;
        return read(texts[view].toString(), new Circuit());
    }

    private static boolean isWire(int name) {
        return name >= 6 && name <= 14;
    }

    private static TreeSet<Integer> leansOn(Circuit c, int name) {
        TreeSet<Integer> met = new TreeSet<>();
        List<Integer> toDo = new ArrayList<>();
        toDo.add(name);
        while (!toDo.isEmpty()) {
            int next = toDo.remove(0);
            for (char sign : c.tokens.getOrDefault(next, "").toCharArray()) {
                if (sign >= 'a' && sign <= 's' && met.add(sign - 'a') && isWire(sign - 'a')) toDo.add(sign - 'a');
            }
        }
        return met;
    }

    private static int ringOf(Circuit c) {
        for (int wire = 6; wire <= 14; wire++) if (leansOn(c, wire).contains(wire)) return wire;
        return NONE;
    }

    private static int lackOf(Circuit c) {
        for (int wire = 6; wire <= 14; wire++) {
            if (!c.lines.containsKey(wire) && String.join("", c.tokens.values()).indexOf('a' + wire) >= 0) return wire;
        }
        return NONE;
    }

    int ring(int view, int what) {
        if (view < 0 || view > 1 || what < 0 || what > 1) return BAD;
        Circuit c = new Circuit();
        if (read(texts[view].toString(), c) != NONE) return NO;
        return what == 0 ? ringOf(c) : lackOf(c);
    }

    private Circuit sound(int view) {
        Circuit c = new Circuit();
        boolean sound = read(texts[view].toString(), c) == NONE && ringOf(c) == NONE && lackOf(c) == NONE;
        return sound ? c : null;
    }

    int build(int view) {
        if (view < 0 || view > 1) return BAD;
        Circuit c = sound(view);
        if (c == null) return NO;
        views[view] = c;
        if (view == 0) {
            registers = new int[] {2, 2, 2, 2};
            steps = 0;
        }
        return c.lines.size();
    }

    int line(int view, int name, int what) {
        if (view < 0 || view > 1 || name < 6 || name > 18 || what < 0 || what > 2) return BAD;
        Circuit c = views[view];
        if (!c.lines.containsKey(name)) return NONE;
        if (what == 0) return c.tokens.get(name).length();
        if (what == 2) return usesOf(c, name);
        int bits = 0;
        for (int other : leansOn(c, name)) bits += 1 << other;
        return bits;
    }

    private static int usesOf(Circuit c, int name) {
        int uses = 0;
        for (char sign : String.join("", c.tokens.values()).toCharArray()) if (sign - 'a' == name) uses++;
        return uses;
    }

    // ---- steps, truth

    int state(int v) {
        if (v < 0 || v > 255) return BAD;
        int[] told = {v % 4, v / 4 % 4, v / 16 % 4, v / 64};
        for (int one : told) if (one == 3) return BAD;
        int was = packed();
        registers = told;
        return was;
    }

    private int packed() {
        return registers[0] + 4 * registers[1] + 16 * registers[2] + 64 * registers[3];
    }

    /** A TOKEN's value with x (2); wires are told once worked out (9 till then). */
    private static int maybe(Circuit c, Tree t, int[] all) {
        int[] v = new int[t.takes.size()];
        for (int k = 0; k < v.length; k++) v[k] = maybe(c, t.takes.get(k), all);
        switch (t.sign) {
            case '0': return 0;
            case '1': return 1;
            case '~': return new int[] {1, 0, 2}[v[0]];
            case '&': return new int[][] {{0, 0, 0}, {0, 1, 2}, {0, 2, 2}}[v[0]][v[1]];
            case '|': return new int[][] {{0, 1, 2}, {1, 1, 1}, {2, 1, 2}}[v[0]][v[1]];
            case '^': return new int[][] {{0, 1, 2}, {1, 0, 2}, {2, 2, 2}}[v[0]][v[1]];
            case '?': return v[0] == 1 ? v[1] : v[0] == 0 ? v[2] : v[1] == v[2] ? v[1] : 2;
            default: break;
        }
        int name = t.sign - 'a';
        if (all[name] == 9) all[name] = maybe(c, c.lines.get(name), all);
        return all[name];
    }

    int step(int inputs, int unknown) {
        if (inputs < 0 || inputs > 63 || unknown < 0 || unknown > 63) return BAD;
        int[] all = new int[19];
        for (int k = 0; k < 6; k++) all[k] = (unknown & 1 << k) != 0 ? 2 : (inputs & 1 << k) != 0 ? 1 : 0;
        for (int r = 0; r < 4; r++) all[15 + r] = registers[r];
        Circuit c = views[0];
        int[] next = registers.clone();
        for (int name = 6; name < 15; name++) all[name] = c.lines.containsKey(name) ? 9 : 2;
        for (int name = 6; name < 15; name++) if (all[name] == 9) all[name] = maybe(c, c.lines.get(name), all);
        for (int r = 0; r < 4; r++) if (c.lines.containsKey(15 + r)) next[r] = maybe(c, c.lines.get(15 + r), all);
        registers = next;
        lastStep = all;
        steps++;
        return packed();
    }

    int value(int name) {
        if (name < 0 || name > 18) return BAD;
        return steps == 0 ? NO : lastStep[name];
    }

    /** One ROW of a circuit, name k STUCK as the FAULT 2 k + v says (-1: none). */
    private static final class Row {
        final Circuit c;
        final int row;
        final int fault;
        final Boolean[] wires = new Boolean[19];

        Row(Circuit c, int row, int fault) {
            this.c = c;
            this.row = row;
            this.fault = fault;
        }

        /** A name where it is used. */
        boolean used(int name) {
            if (fault >= 0 && fault / 2 == name) return fault % 2 == 1;
            if (!isWire(name)) return told(name);
            if (!c.lines.containsKey(name)) return false;
            if (wires[name] == null) wires[name] = made(c.lines.get(name));
            return wires[name];
        }

        boolean told(int name) {
            return (row >> (name < 6 ? name : 6 + name - 15) & 1) == 1;
        }

        boolean made(Tree t) {
            List<Tree> of = t.takes;
            switch (t.sign) {
                case '0': return false;
                case '1': return true;
                case '~': return !made(of.get(0));
                case '&': return made(of.get(0)) && made(of.get(1));
                case '|': return made(of.get(0)) || made(of.get(1));
                case '^': return made(of.get(0)) != made(of.get(1));
                case '?': return made(of.get(0)) ? made(of.get(1)) : made(of.get(2));
                default: return used(t.sign - 'a');
            }
        }

        /** THE VALUE, a register's NEXT. */
        boolean shown(int name) {
            if (name < 15) return used(name);
            return c.lines.containsKey(name) ? made(c.lines.get(name)) : told(name);
        }
    }

    private static boolean shown(Circuit c, int name, int row) {
        return new Row(c, row, -1).shown(name);
    }

    int truth(int view, int name, int row) {
        if (view < 0 || view > 1 || name < 0 || name > 18 || row < 0 || row > 1023) return BAD;
        return shown(views[view], name, row) ? 1 : 0;
    }

    int ones(int view, int name) {
        if (view < 0 || view > 1 || name < 0 || name > 18) return BAD;
        int ones = 0;
        for (int row = 0; row < 1024; row++) if (shown(views[view], name, row)) ones++;
        return ones;
    }

    int start(int v) {
        if (v < 0 || v > 15) return BAD;
        int was = start;
        start = v;
        return was;
    }

    private TreeSet<Integer> reached() {
        TreeSet<Integer> reached = new TreeSet<>();
        List<Integer> toDo = new ArrayList<>();
        toDo.add(start);
        reached.add(start);
        while (!toDo.isEmpty()) {
            int state = toDo.remove(0);
            for (int inputs = 0; inputs < 64; inputs++) {
                int next = 0;
                for (int r = 0; r < 4; r++) if (shown(views[0], 15 + r, state * 64 + inputs)) next += 1 << r;
                if (reached.add(next)) toDo.add(next);
            }
        }
        return reached;
    }

    int states() {
        int bits = 0;
        for (int state : reached()) bits += 1 << state;
        return bits;
    }

    int differ(int name) {
        if (name < 6 || name > 18) return BAD;
        TreeSet<Integer> reached = reached();
        for (int row = 0; row < 1024; row++) {
            if (reached.contains(row / 64) && shown(views[0], name, row) != shown(views[1], name, row)) return row;
        }
        return NONE;
    }

    int touched() {
        Circuit late = sound(0);
        if (late == null) return NO;
        int bits = 0;
        for (int name = 6; name <= 18; name++) {
            boolean touched = false;
            for (int row = 0; row < 1024 && !touched; row++) touched = shown(views[0], name, row) != shown(late, name, row);
            if (touched) bits += 1 << name;
        }
        return bits;
    }

    // ---- gates, times

    int gate(int kind, int what, int v) {
        if (kind < 0 || kind > 6 || what < 0 || what > 1 || v < 1 || v > (what == 0 ? 100 : 50)) return BAD;
        int[] told = what == 0 ? price : delay;
        int was = told[kind];
        told[kind] = v;
        return was;
    }

    int rule(int what, int v) {
        if (what < 0 || what > 4) return BAD;
        if (what < 3 && (v < 50 || v > 300) || what == 3 && (v < 0 || v > 9) || what == 4 && (v < 1 || v > 500)) return BAD;
        int was = rules[what];
        rules[what] = v;
        return was;
    }

    /** The least PRICE of a TOKEN, asked for as it is or turned, way by way as they are listed. */
    private int priceOf(Tree t, boolean turned, Map<String, Integer> known) {
        String key = t.at + (turned ? "~" : "");
        if (known.containsKey(key)) return known.get(key);
        int least = Math.min(oneWay(t, turned, known), oneWay(t, !turned, known) + price[0]);
        known.put(key, least);
        return least;
    }

    private int oneWay(Tree t, boolean turned, Map<String, Integer> known) {
        int[] is = new int[t.takes.size()];
        int[] not = new int[t.takes.size()];
        for (int k = 0; k < is.length; k++) {
            is[k] = priceOf(t.takes.get(k), false, known);
            not[k] = priceOf(t.takes.get(k), true, known);
        }
        switch (t.sign) {
            case '0': return 0;
            case '1': return 0;
            case '~': return turned ? is[0] : not[0];
            case '&': return turned ? Math.min(price[3] + is[0] + is[1], price[2] + not[0] + not[1])
                    : Math.min(price[1] + is[0] + is[1], price[4] + not[0] + not[1]);
            case '|': return turned ? Math.min(price[4] + is[0] + is[1], price[1] + not[0] + not[1])
                    : Math.min(price[2] + is[0] + is[1], price[3] + not[0] + not[1]);
            case '^': return price[5] + (turned ? Math.min(not[0] + is[1], is[0] + not[1])
                    : Math.min(is[0] + is[1], not[0] + not[1]));
            case '?': return price[6] + Math.min(is[0], not[0]) + (turned ? not[1] + not[2] : is[1] + is[2]);
            default: return turned ? price[0] : 0;
        }
    }

    int cover(int view, int name) {
        if (view < 0 || view > 1 || name != -1 && (name < 6 || name > 18)) return BAD;
        Circuit c = views[view];
        if (name >= 0) return c.lines.containsKey(name) ? priceOf(c.lines.get(name), false, new HashMap<>()) : NONE;
        int all = 0;
        for (Tree t : c.lines.values()) all += priceOf(t, false, new HashMap<>());
        return all;
    }

    private int gateTakes(char sign, int corner) {
        int gate = "~&|..^?".indexOf(sign);
        return (int) Math.ceil(delay[gate] * rules[corner] / 100.0);
    }

    private int lineArrival(Circuit c, int name, int corner, Map<Integer, Integer> known) {
        if (!c.lines.containsKey(name)) return 0;
        if (known.containsKey(name)) return known.get(name);
        int arrival = 0;
        for (int[] way : waysIn(c, c.lines.get(name), corner, known)) arrival = Math.max(arrival, way[1]);
        if (isWire(name)) arrival += rules[3] * usesOf(c, name);
        known.put(name, arrival);
        return arrival;
    }

    /** For each TOKEN below that is a name, 0 or 1, as they come: what it is, and when it arrives here. */
    private List<int[]> waysIn(Circuit c, Tree t, int corner, Map<Integer, Integer> known) {
        List<int[]> ways = new ArrayList<>();
        if (t.takes.isEmpty()) {
            int name = t.sign - 'a';
            ways.add(new int[] {t.sign, isWire(name) ? lineArrival(c, name, corner, known) : 0});
            return ways;
        }
        for (Tree under : t.takes) {
            for (int[] way : waysIn(c, under, corner, known)) ways.add(new int[] {way[0], way[1] + gateTakes(t.sign, corner)});
        }
        return ways;
    }

    int arrival(int view, int name, int corner) {
        if (view < 0 || view > 1 || name < 0 || name > 18 || corner < 0 || corner > 2) return BAD;
        return lineArrival(views[view], name, corner, new HashMap<>());
    }

    int worst(int view, int corner, int i) {
        if (view < 0 || view > 1 || corner < 0 || corner > 2 || i < -2) return -10001;
        Circuit c = views[view];
        Map<Integer, Integer> known = new HashMap<>();
        int worst = NONE;
        int slack = 0;
        for (int name : c.lines.keySet()) {
            int its = rules[4] - lineArrival(c, name, corner, known);
            if (worst == NONE || its < slack) {
                worst = name;
                slack = its;
            }
        }
        if (i == -2) return worst == NONE ? -10000 : slack;
        if (worst == NONE || i == -1) return worst;
        List<Integer> way = new ArrayList<>();
        way.add(worst);
        while (true) {
            int last = way.get(way.size() - 1);
            if (way.size() > 1 && !isWire(last)) break;
            int[] first = null;
            for (int[] one : waysIn(c, c.lines.get(last), corner, known)) if (first == null || one[1] > first[1]) first = one;
            if (first[0] == '0' || first[0] == '1') break;
            way.add(first[0] - 'a');
        }
        return i < way.size() ? way.get(i) : NONE;
    }

    // ---- places

    int block() {
        if (blockPlaces.size() == 7) return FULL;
        int place = 0;
        while (blockPlaces.contains(place)) place++;
        blockPlaces.add(place);
        return blockPlaces.size() - 1;
    }

    int net(int blocks) {
        if (blocks < 0 || blocks >= 1 << blockPlaces.size() || Integer.bitCount(blocks) < 2) return BAD;
        if (nets.size() == 8) return FULL;
        nets.add(blocks);
        return nets.size();
    }

    int place(int block, int place) {
        if (block < 0 || block >= blockPlaces.size() || place < 0 || place > 7) return BAD;
        int was = blockPlaces.get(block);
        if (was != place && blockPlaces.contains(place)) return NO;
        blockPlaces.set(block, place);
        return was;
    }

    private static int wireOf(int net, int[] places) {
        int top = 9, bottom = -9, left = 9, right = -9;
        for (int block = 0; block < places.length; block++) {
            if ((net >> block & 1) == 1) {
                top = Math.min(top, places[block] / 4);
                bottom = Math.max(bottom, places[block] / 4);
                left = Math.min(left, places[block] % 4);
                right = Math.max(right, places[block] % 4);
            }
        }
        return bottom - top + right - left;
    }

    private int wireOfAll(int[] places) {
        int all = 0;
        for (int net : nets) all += wireOf(net, places);
        return all;
    }

    private int[] placesNow() {
        int[] places = new int[blockPlaces.size()];
        for (int block = 0; block < places.length; block++) places[block] = blockPlaces.get(block);
        return places;
    }

    int wire(int net) {
        if (net < -1 || net >= nets.size()) return BAD;
        return net == -1 ? wireOfAll(placesNow()) : wireOf(nets.get(net), placesNow());
    }

    private void layAll(int[] places, int block) {
        if (block == places.length) {
            int all = wireOfAll(places);
            boolean better = leastLay == null || all < leastWire
                    || all == leastWire && Arrays.compare(places, leastLay) < 0;
            if (better) {
                leastWire = all;
                leastLay = places.clone();
            }
            return;
        }
        for (int place = 7; place >= 0; place--) {
            boolean free = true;
            for (int other = 0; other < block; other++) free &= places[other] != place;
            if (free) {
                places[block] = place;
                layAll(places, block + 1);
            }
        }
    }

    int least(int block) {
        if (block < -1 || block >= blockPlaces.size()) return BAD;
        String now = blockPlaces.size() + " " + nets;
        if (!now.equals(leastFor)) {
            leastLay = null;
            layAll(new int[blockPlaces.size()], 0);
            leastFor = now;
        }
        return block == -1 ? leastWire : leastLay[block];
    }

    int swap() {
        int swaps = 0;
        while (true) {
            int[] best = null;
            for (int one = 0; one < 8; one++) {
                for (int two = one + 1; two < 8; two++) {
                    int[] places = placesNow();
                    boolean any = false;
                    for (int block = 0; block < places.length; block++) {
                        int place = places[block];
                        any |= place == one || place == two;
                        places[block] = place == one ? two : place == two ? one : place;
                    }
                    if (any && (best == null || wireOfAll(places) < wireOfAll(best))) best = places;
                }
            }
            if (best == null || wireOfAll(best) >= wireOfAll(placesNow())) return swaps;
            for (int block = 0; block < best.length; block++) blockPlaces.set(block, best[block]);
            swaps++;
        }
    }

    // ---- trials

    int ends(int v) {
        if (v < 0 || v >= 1 << 19 || v % 64 != 0) return BAD;
        int was = ends;
        ends = v;
        return was;
    }

    private int failsBy(int fault, int row) {
        int bits = 0;
        Row right = new Row(views[1], row, -1);
        Row wrong = new Row(views[1], row, fault);
        for (int name : views[1].lines.keySet()) {
            boolean isEnd = (ends >> name & 1) == 1;
            if (isEnd && right.shown(name) != wrong.shown(name)) bits += 1 << name;
        }
        return bits;
    }

    int fails(int fault, int row) {
        if (fault < 0 || fault > 37 || row < 0 || row > 1023) return BAD;
        return failsBy(fault, row);
    }

    int finds(int fault) {
        if (fault < 0 || fault > 37) return BAD;
        for (int row = 0; row < 1024; row++) if (failsBy(fault, row) != 0) return row;
        return NONE;
    }

    int trial(int row) {
        if (row < 0 || row > 1023) return BAD;
        if (trialRows.size() == 10) return FULL;
        trialRows.add(row);
        seen.add(-1);
        return trialRows.size();
    }

    int noTrials() {
        int were = trialRows.size();
        trialRows.clear();
        seen.clear();
        return were;
    }

    int fewest(int what) {
        if (what < 0 || what > 1) return BAD;
        int[][] fails = new int[trialRows.size()][38];
        TreeSet<Integer> all = new TreeSet<>();
        for (int i = 0; i < fails.length; i++) {
            for (int fault = 0; fault < 38; fault++) {
                fails[i][fault] = failsBy(fault, trialRows.get(i));
                if (fails[i][fault] != 0) all.add(fault);
            }
        }
        if (what == 0) return all.size();
        for (int many = 0; many <= fails.length; many++) {
            for (int set = 0; set < 1 << fails.length; set++) {
                TreeSet<Integer> found = new TreeSet<>();
                for (int i = 0; i < fails.length && Integer.bitCount(set) == many; i++) {
                    for (int fault = 0; fault < 38; fault++) if ((set >> i & 1) == 1 && fails[i][fault] != 0) found.add(fault);
                }
                if (Integer.bitCount(set) == many && found.equals(all)) return set;
            }
        }
        return NONE;
    }

    int see(int i, int fails) {
        if (i < 0 || i >= trialRows.size() || fails < -1 || fails >= 1 << 19 || fails > 0 && fails % 64 != 0) return -100;
        return seen.set(i, fails);
    }

    /** What a made one with this FAULT would show in a TRIAL: so that runs see what can be. */
    int seenFor(int i, int fault) {
        return i < trialRows.size() ? failsBy(fault, trialRows.get(i)) : 0;
    }

    private List<Integer> thatCould() {
        List<Integer> could = new ArrayList<>();
        for (int fault = 0; fault <= 38; fault++) {
            boolean fits = true;
            for (int i = 0; i < trialRows.size() && fits; i++) {
                if (seen.get(i) != -1) fits = seen.get(i) == (fault == 38 ? 0 : failsBy(fault, trialRows.get(i)));
            }
            if (fits) could.add(fault);
        }
        return could;
    }

    int could(int i) {
        if (i < -1) return BAD;
        List<Integer> could = thatCould();
        return i == -1 ? could.size() : i < could.size() ? could.get(i) : NONE;
    }

    int parts() {
        List<Integer> could = thatCould();
        int best = NONE;
        int least = 1000;
        for (int i = 0; i < trialRows.size() && could.size() > 1; i++) {
            if (seen.get(i) == -1) {
                Map<Integer, Integer> many = new HashMap<>();
                for (int fault : could) many.merge(fault == 38 ? 0 : failsBy(fault, trialRows.get(i)), 1, Integer::sum);
                int greatest = 0;
                for (int one : many.values()) greatest = Math.max(greatest, one);
                if (greatest < least) {
                    least = greatest;
                    best = i;
                }
            }
        }
        return best;
    }

    int keep() {
        if (saved.size() == 2) return FULL;
        Saved now = new Saved();
        now.views = views.clone();
        now.registers = registers.clone();
        now.start = start;
        now.ends = ends;
        saved.add(now);
        return saved.size();
    }

    int back() {
        if (saved.isEmpty()) return NO;
        Saved then = saved.remove(saved.size() - 1);
        views = then.views;
        registers = then.registers;
        start = then.start;
        ends = then.ends;
        return saved.size();
    }

    int count(int what) {
        int[] counts = {texts[0].length(), texts[1].length(), views[0].lines.size(), views[1].lines.size(),
            blockPlaces.size(), nets.size(), trialRows.size(), saved.size(), steps};
        return what < 0 || what >= counts.length ? BAD : counts[what];
    }
}
