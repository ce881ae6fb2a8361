import java.util.ArrayList;
import java.util.Arrays;
import java.util.List;
import java.util.Random;

/**
 * The document's first section, clause by clause: what one call tells is held against what others tell of the same
 * thing, ROW by ROW, way by way, over circuits that are the same ones each time.
 */
public final class SummaryTests {
    private static final int NO = Due.NO, NONE = Due.NONE;
    private static final int X = 2, ROWS = 1024, FAULTS = 38;
    /** So many answers are asked of one object, which stays below its 512 calls with what was told ahead of them. */
    private static final int ASKED = 400;

    private interface Question {
        int ask(WishToChip x, int k);
    }

    public static void main(String[] args) {
        circuitsToldInALanguage();
        theFirstWrongByte();
        ringsWithoutARegister();
        neverSilently();
        shownAlike();
        theLeastPrice();
        threeCorners();
        theWorstWayBack();
        theLeastWire();
        swappedAsFarAsThatHelps();
        stuckFaults();
        theFewestRows();
        wouldFailJustSo();
        partsThemMost();
        whatALateWishTouches();
        statesKept();
        Due.end();
    }

    // ---- circuits, and questions that take more calls than one object has

    /** LINES that lean on inputs, registers and the wires told ahead of them: they may always be BUILT. */
    private static String circuit(int number) {
        Random dice = new Random(number);
        StringBuilder names = new StringBuilder("abcpqabcdefpqrs");
        StringBuilder text = new StringBuilder();
        for (char name : "ghijklopqrs".toCharArray()) {
            if (dice.nextInt(5) == 0) continue;
            text.append(name).append('=').append(tokens(dice, names)).append(';');
            if (name < 'p') names.append(name).append(name).append(name);
        }
        return text.toString();
    }

    private static String tokens(Random dice, CharSequence names) {
        StringBuilder tokens = new StringBuilder();
        int values = 0;
        for (int k = dice.nextInt(4) + 2; k > 0 || values != 1; k--) {
            int sign = dice.nextInt(k > 0 ? 6 : 4);
            if (values >= 3 && sign == 0) {
                tokens.append('?');
                values -= 2;
            } else if (values >= 2 && sign < 4) {
                tokens.append("&|^^".charAt(sign));
                values--;
            } else if (values >= 1 && dice.nextInt(3) == 0) {
                tokens.append('~');
            } else {
                tokens.append(dice.nextInt(20) == 0 ? (char) ('0' + dice.nextInt(2)) : names.charAt(dice.nextInt(names.length())));
                values++;
            }
        }
        return tokens.toString();
    }

    private static int[] askAll(String wish, String net, int many, Question question) {
        int[] answers = new int[many];
        WishToChip x = null;
        for (int k = 0; k < many; k++) {
            if (k % ASKED == 0) x = Due.built(wish, net);
            answers[k] = question.ask(x, k);
        }
        return answers;
    }

    /** Of each name g to s THE VALUE (NEXT) in each ROW, as truth tells it. */
    private static int[][] truths(String text) {
        int[][] truths = new int[19][];
        for (int name = 6; name <= 18; name++) {
            int n = name;
            truths[name] = askAll(text, "", ROWS, (x, row) -> x.truth(0, n, row));
        }
        return truths;
    }

    private static boolean hasLine(String text, int name) {
        return text.indexOf(Due.letter(name) + "=") >= 0;
    }

    // ---- texts

    private static void circuitsToldInALanguage() {
        Due.sentence(6, "From wish to chip: small circuits told in a language, a wish and a net");
        WishToChip x = new WishToChip();
        Due.due("a wish of eight bytes", x.write(0, 8, 0x673D6162263B703DL), 8);
        Due.due("and four", x.write(0, 4, 0x67705E3BL), 12);
        Due.due("a net of its own", x.write(1, 4, 0x683D613BL), 4);
        Due.due("the wish", x.build(0), 2);
        Due.due("the net is not BUILT by that", x.count(3), 0);
        Due.due("the net", x.build(1), 1);
        Due.due("g is a and b", x.truth(0, 6, 3) * 10 + x.truth(0, 6, 1), 10);
        Due.due("h is a", x.truth(1, 7, 1) * 10 + x.truth(1, 7, 2), 10);
    }

    private static void theFirstWrongByte() {
        Due.sentence(4, "the first wrong byte");
        String good = "g=ab&~c|;p=gq^01?;";
        Due.due("none is wrong", Due.told(0, good).fault(0), NONE);
        for (int at = 0; at < good.length(); at++) {
            for (char wrong : new char[] {0, ' ', 'x', 't', '2', 'A', 'a' + 128, 255}) {
                String text = good.substring(0, at) + wrong + good.substring(at + 1);
                Due.due("byte " + (int) wrong + " at " + at, Due.told(0, text).fault(0), at);
                Due.due("and all behind it", Due.told(1, good.substring(0, at) + wrong + "!" + wrong).fault(1), at);
            }
            boolean isWhole = at == 0 || good.charAt(at - 1) == ';';
            Due.due("the end at " + at, Due.told(0, good.substring(0, at)).fault(0), isWhole ? NONE : at);
        }
    }

    private static void ringsWithoutARegister() {
        Due.sentence(5, "rings without a register");
        for (char one = 'g'; one <= 'o'; one++) {
            for (char two = 'g'; two <= 'o'; two++) {
                String ring = one == two ? one + "=" + one + "~;" : one + "=" + two + ";" + two + "=" + one + "~;";
                WishToChip x = Due.told(0, ring);
                Due.due("RING of " + ring, x.ring(0, 0), Math.min(one, two) - 'a');
                Due.due("build of " + ring, x.build(0), NO);
                if (one == two) continue;
                for (char register = 'p'; register <= 's'; register++) {
                    String parted = one + "=" + two + ";" + two + "=" + register + ";" + register + "=" + one + "~;";
                    WishToChip y = Due.told(1, parted);
                    Due.due("RING of " + parted, y.ring(1, 0), NONE);
                    Due.due("build of " + parted, y.build(1), 3);
                }
            }
        }
    }

    // ---- steps, truth

    private static void neverSilently() {
        Due.sentence(9, "steps with x where nothing is told, never silently one or nought");
        for (int number = 0; number < 12; number++) {
            String text = circuit(number);
            int[][] truths = truths(text);
            Random dice = new Random(number);
            WishToChip x = Due.built(text, "");
            for (int round = 0; round < 15; round++) {
                int unknown = round < 3 ? 0 : dice.nextInt(64) & dice.nextInt(64);
                int unknownRegisters = round < 3 ? 0 : dice.nextInt(16) & dice.nextInt(16);
                stepHeldAgainst(text, truths, x, dice.nextInt(ROWS), unknown | unknownRegisters << 6);
            }
        }
    }

    /** A STEP from a ROW of which some bits are not known, against the ROWS that it could be. */
    private static void stepHeldAgainst(String text, int[][] truths, WishToChip x, int row, int unknown) {
        int registers = 0;
        for (int r = 0; r < 4; r++) registers |= ((unknown >> 6 + r & 1) != 0 ? X : row >> 6 + r & 1) << 2 * r;
        x.state(registers);
        int then = x.step(row & 63, unknown & 63);
        for (int name = 6; name <= 18; name++) {
            int got = name < 15 ? x.value(name) : then >> 2 * (name - 15) & 3;
            String what = Due.letter(name) + " of " + text + " in " + row + ", not known " + unknown;
            if (!hasLine(text, name)) {
                Due.due(what + ", without a LINE", got, name < 15 ? X : registers >> 2 * (name - 15) & 3);
                continue;
            }
            boolean both = false;
            for (int other = 0; other < ROWS; other++) {
                both |= ((other ^ row) & ~unknown) == 0 && truths[name][other] != truths[name][row];
            }
            if (both) Due.due(what + ": it could be both", got, X);
            else if (unknown == 0) Due.due(what + ": all is told", got, truths[name][row]);
            else Due.due(what + ": x or what it is", got == X ? truths[name][row] : got, truths[name][row]);
        }
    }

    private static int statesBy(int[][] truths, int start) {
        int reached = 1 << start;
        for (int round = 0; round < 16; round++) {
            for (int row = 0; row < ROWS; row++) {
                if ((reached >> row / 64 & 1) == 0) continue;
                int next = 0;
                for (int r = 0; r < 4; r++) next |= truths[15 + r][row] << r;
                reached |= 1 << next;
            }
        }
        return reached;
    }

    private static void shownAlike() {
        Due.sentence(15, "net and wish shown alike at every name for all inputs and all states that can be, or the inputs and state where not");
        int unlike = 0;
        int alike = 0;
        for (int number = 0; number < 12; number++) {
            String wish = circuit(number);
            String net = number % 3 == 0 ? circuit(number + 100) : wish.replaceFirst("\\^;", number % 3 == 1 ? "|;" : "^~~;");
            int[][] byWish = truths(wish);
            int[][] byNet = truths(net);
            WishToChip x = Due.built(wish, net);
            for (int start : new int[] {0, 5, 15}) {
                x.start(start);
                int states = statesBy(byWish, start);
                Due.due("states of " + wish + " from " + start, x.states(), states);
                for (int name = 6; name <= 18; name++) {
                    int row = 0;
                    while (row < ROWS && ((states >> row / 64 & 1) == 0 || byWish[name][row] == byNet[name][row])) row++;
                    if (row < ROWS) unlike++;
                    else alike++;
                    Due.due(Due.letter(name) + " of " + wish + " and " + net, x.differ(name), row < ROWS ? row : NONE);
                }
            }
        }
        Due.due("some were alike, some were not", alike > 50 && unlike > 50 ? 1 : 0, 1);
    }

    private static void whatALateWishTouches() {
        Due.sentence(16, "what a late wish touches");
        for (int number = 0; number < 8; number++) {
            String wish = circuit(number);
            String late = number % 2 == 0 ? circuit(number + 200) : wish.replaceFirst("\\^", "|");
            int[][] byWish = truths(wish);
            int[][] byLate = truths(late);
            int due = 0;
            for (int name = 6; name <= 18; name++) if (!Arrays.equals(byWish[name], byLate[name])) due |= 1 << name;
            WishToChip x = Due.built(wish, "");
            Due.due("told as it is BUILT", x.touched(), 0);
            Due.retell(x, 0, late);
            Due.due("touched by " + late + " in place of " + wish, x.touched(), due);
            Due.due("THE WISH is as it was: ones of s", x.ones(0, 18), Arrays.stream(byWish[18]).sum());
        }
    }

    // ---- gates, times

    private static void theLeastPrice() {
        Due.sentence(19, "lines made of told gates for the least price");
        WishToChip x = Due.built("g=ab&;h=ab&~;i=a~b~&;j=ab&cd&|;p=ab^~;", "");
        Due.due("g: & for 3", x.cover(0, 6), 3);
        Due.due("h: & then ~ for 2", x.cover(0, 7), 2);
        Due.due("i: | then ~ for 2", x.cover(0, 8), 2);
        Due.due("j: three & then ~ for 6", x.cover(0, 9), 6);
        Due.due("p: ^ and ~ for 6", x.cover(0, 15), 6);
        x.gate(3, 0, 9);
        Due.due("h, & then ~ dearer: & and ~", x.cover(0, 7), 4);
        Due.due("j: two | then ~ of turned ones are dearer than two & and |", x.cover(0, 9), 9);
        x.gate(1, 0, 9);
        Due.due("g, & dearer: | then ~ of both turned", x.cover(0, 6), 4);
        x.gate(0, 0, 9);
        Due.due("p: ~ dearer", x.cover(0, 15), 14);
        Due.due("i: a ~ for none of both, | then ~", x.cover(0, 8), 2);
    }

    private static void threeCorners() {
        Due.sentence(20, "arrivals at three corners by load");
        WishToChip x = Due.built("g=ab&;h=gc|g^;p=hg&~;", "");
        int[][] due = {{5, 11, 14}, {5, 11, 14}, {6, 14, 19}};
        for (int corner = 0; corner <= 2; corner++) {
            Due.due("g at " + corner + ": &, three TOKENS", x.arrival(0, 6, corner), due[corner][0]);
            Due.due("h at " + corner + ": g, |, ^, one TOKEN", x.arrival(0, 7, corner), due[corner][1]);
            Due.due("p at " + corner + ": h, &, ~", x.arrival(0, 15, corner), due[corner][2]);
        }
        x.rule(3, 0);
        Due.due("g without LOAD", x.arrival(0, 6, 0), 2);
        Due.due("h without LOAD", x.arrival(0, 7, 0), 7);
        Due.due("p without LOAD", x.arrival(0, 15, 0), 10);
    }

    private static void theWorstWayBack() {
        Due.sentence(21, "the worst way back");
        for (int number = 0; number < 12; number++) {
            String text = circuit(number);
            WishToChip x = Due.built("", text);
            for (int corner = 0; corner <= 2; corner++) {
                int latest = NONE;
                for (int name = 6; name <= 18; name++) {
                    boolean later = latest == NONE || x.arrival(1, name, corner) > x.arrival(1, latest, corner);
                    if (hasLine(text, name) && later) latest = name;
                }
                Due.due("worst of " + text, x.worst(1, corner, -1), latest);
                Due.due("its SLACK", x.worst(1, corner, -2), 20 - x.arrival(1, latest, corner));
                Due.due("THE WAY begins there", x.worst(1, corner, 0), latest);
                wayLeadsBack(text, x, corner);
            }
        }
    }

    /** Each name of THE WAY is a TOKEN of the LINE ahead of it, and comes no later. */
    private static void wayLeadsBack(String text, WishToChip x, int corner) {
        int name = x.worst(1, corner, 0);
        for (int i = 1; i <= 11; i++) {
            int next = x.worst(1, corner, i);
            if (next == NONE) return;
            String line = text.substring(text.indexOf(Due.letter(name) + "=") + 2);
            line = line.substring(0, line.indexOf(';'));
            Due.due(next + " is in " + line, line.indexOf(Due.letter(next)) >= 0 ? 1 : 0, 1);
            boolean isWire = next >= 6 && next <= 14;
            if (isWire) Due.due("it comes ahead", x.arrival(1, next, corner) <= x.arrival(1, name, corner) ? 1 : 0, 1);
            else Due.due("it ends at an input or a register", x.worst(1, corner, i + 1), NONE);
            if (!isWire) return;
            name = next;
        }
        Due.fail("THE WAY does not end: " + text);
    }

    // ---- places

    private static final int[][] NETS = {{3}, {3, 5}, {3, 6, 5}, {7}, {7, 3, 3}, {6, 6, 5}, {}};

    /** BLOCKS laid so; what lies in the way goes to a PLACE that is free and asked for by none. */
    private static WishToChip laid(int[] nets, int... places) {
        WishToChip x = Due.blocks(places.length, nets);
        int[] now = new int[places.length];
        for (int k = 0; k < now.length; k++) now[k] = k;
        for (int k = 0; k < now.length; k++) {
            for (int other = 0; other < now.length; other++) {
                if (other != k && now[other] == places[k]) move(x, now, other, freePlace(now, places));
            }
            move(x, now, k, places[k]);
        }
        return x;
    }

    private static void move(WishToChip x, int[] now, int block, int place) {
        Due.due("BLOCK " + block + " goes to " + place, x.place(block, place), now[block]);
        now[block] = place;
    }

    private static int freePlace(int[] now, int[] places) {
        int free = 0;
        while (contains(now, free) || contains(places, free)) free++;
        return free;
    }

    private static boolean contains(int[] numbers, int one) {
        return Arrays.stream(numbers).anyMatch(number -> number == one);
    }

    private static List<int[]> waysToLayThree() {
        List<int[]> ways = new ArrayList<>();
        for (int a = 0; a < 8; a++) {
            for (int b = 0; b < 8; b++) {
                for (int c = 0; c < 8; c++) if (a != b && a != c && b != c) ways.add(new int[] {a, b, c});
            }
        }
        return ways;
    }

    private static void theLeastWire() {
        Due.sentence(26, "blocks laid on places with the least wire");
        for (int[] nets : NETS) {
            int least = 1000;
            int[] first = {};
            for (int[] way : waysToLayThree()) {
                int wire = laid(nets, way).wire(-1);
                if (wire < least) {
                    least = wire;
                    first = way;
                }
            }
            WishToChip x = Due.blocks(3, nets);
            Due.due("LEAST of " + Arrays.toString(nets), x.least(-1), least);
            for (int k = 0; k < 3; k++) Due.due("PLACE of BLOCK " + k, x.least(k), first[k]);
        }
    }

    private static int[] exchanged(int[] way, int one, int other) {
        int[] now = way.clone();
        for (int k = 0; k < now.length; k++) now[k] = way[k] == one ? other : way[k] == other ? one : way[k];
        return now;
    }

    private static void swappedAsFarAsThatHelps() {
        Due.sentence(27, "or swapped as far as that helps");
        List<int[]> ways = waysToLayThree();
        for (int number = 0; number < 60; number++) {
            int[] nets = NETS[number % NETS.length];
            int[] way = ways.get(number * 5);
            WishToChip x = laid(nets, way);
            int wire = x.wire(-1);
            int swaps = x.swap();
            Due.due("each makes it less", wire - x.wire(-1) >= swaps ? 1 : 0, 1);
            if (swaps == 0) Due.due("it is what it was", x.wire(-1), wire);
            int[] now = new int[3];
            for (int k = 0; k < 3; k++) now[k] = Due.placeOf(x, k);
            for (int one = 0; one < 8; one++) {
                for (int other = one + 1; other < 8; other++) {
                    int then = laid(nets, exchanged(now, one, other)).wire(-1);
                    Due.due("one more swap would not help", then >= x.wire(-1) ? 1 : 0, 1);
                }
            }
            Due.due("no more", x.swap(), 0);
        }
    }

    // ---- trials

    private static int[] failsInAllRows(String net, int fault) {
        return askAll("", net, ROWS, (x, row) -> x.fails(fault, row));
    }

    private static void stuckFaults() {
        Due.sentence(30, "stuck faults, rows that find them, those that can't be found");
        int found = 0;
        for (int number = 0; number < 6; number++) {
            String net = circuit(number);
            WishToChip x = Due.built("", net);
            for (int fault = 0; fault < FAULTS; fault++) {
                int[] fails = failsInAllRows(net, fault);
                int row = 0;
                while (row < ROWS && fails[row] == 0) row++;
                if (row < ROWS) found++;
                Due.due("FAULT " + fault + " of " + net, x.finds(fault), row < ROWS ? row : NONE);
            }
        }
        Due.due("some are found, some can't be", found > 20 && found < 6 * FAULTS - 20 ? 1 : 0, 1);
    }

    private static final int[] TRIED = {0, 1023, 341, 682, 77, 950, 600, 15};

    private static WishToChip tried(String net) {
        WishToChip x = Due.built("", net);
        for (int row : TRIED) x.trial(row);
        return x;
    }

    /** FAILS of each TRIAL by each FAULT; none at all is the last. */
    private static int[][] failsTried(String net) {
        int[][] fails = new int[TRIED.length][];
        for (int i = 0; i < TRIED.length; i++) {
            int row = TRIED[i];
            fails[i] = Arrays.copyOf(askAll("", net, FAULTS, (x, fault) -> x.fails(fault, row)), FAULTS + 1);
        }
        return fails;
    }

    private static long foundBy(int[][] fails, int set) {
        long found = 0;
        for (int i = 0; i < fails.length; i++) {
            for (int fault = 0; fault < FAULTS; fault++) if ((set >> i & 1) != 0 && fails[i][fault] != 0) found |= 1L << fault;
        }
        return found;
    }

    private static void theFewestRows() {
        Due.sentence(33, "the fewest rows");
        for (int number = 0; number < 12; number++) {
            String net = circuit(number);
            int[][] fails = failsTried(net);
            int all = (1 << TRIED.length) - 1;
            int best = all;
            for (int set = all; set >= 0; set--) {
                boolean same = foundBy(fails, set) == foundBy(fails, all);
                if (same && Integer.bitCount(set) <= Integer.bitCount(best)) best = set;
            }
            WishToChip x = tried(net);
            Due.due("how many are found in " + net, x.fewest(0), Long.bitCount(foundBy(fails, all)));
            Due.due("the fewest of " + net, x.fewest(1), best);
        }
    }

    private static List<Integer> couldBe(int[][] fails, int made, int seen) {
        List<Integer> could = new ArrayList<>();
        for (int fault = 0; fault <= FAULTS; fault++) {
            boolean fits = true;
            for (int i = 0; i < seen; i++) fits &= fails[i][fault] == fails[i][made];
            if (fits) could.add(fault);
        }
        return could;
    }

    /** TRIALS below seen were made with what has this FAULT (38: none). */
    private static WishToChip seen(String net, int[][] fails, int made, int seen) {
        WishToChip x = tried(net);
        for (int i = 0; i < seen; i++) Due.due("nothing was SEEN", x.see(i, fails[i][made]), -1);
        return x;
    }

    private static void wouldFailJustSo() {
        Due.sentence(35, "faults that would fail just so");
        for (int number = 0; number < 5; number++) {
            String net = circuit(number);
            int[][] fails = failsTried(net);
            for (int made = number; made <= FAULTS; made += 3) {
                for (int many = 0; many <= TRIED.length; many += 2) {
                    List<Integer> could = couldBe(fails, made, many);
                    WishToChip x = seen(net, fails, made, many);
                    Due.due("how many COULD be", x.could(-1), could.size());
                    for (int i = 0; i < could.size(); i++) Due.due("number " + i, x.could(i), could.get(i));
                    Due.due("behind the last", x.could(could.size()), NONE);
                }
            }
        }
    }

    private static void partsThemMost() {
        Due.sentence(36, "and the row that parts them most");
        partsOfCircuits();
        Due.sentence(36, "PARTS: the TRIAL. NONE.");
        Due.due("no TRIAL", Due.built("", "g=a;").parts(), NONE);
        WishToChip x = Due.built("", "g=ab&;h=cd&;");
        x.trial(0);
        x.trial(15);
        Due.due("the TRIAL, not its ROW", x.parts(), 1);
        x.see(1, Due.bits("gh"));
        Due.due("none COULD be", x.parts(), NONE);
    }

    private static void partsOfCircuits() {
        for (int number = 0; number < 5; number++) {
            String net = circuit(number);
            int[][] fails = failsTried(net);
            for (int made = number; made <= FAULTS; made += 3) {
                for (int many = 0; many <= TRIED.length; many += 2) {
                    List<Integer> could = couldBe(fails, made, many);
                    int best = NONE;
                    for (int i = TRIED.length - 1; i >= many && could.size() > 1; i--) {
                        if (best == NONE || mostAlike(fails[i], could) <= mostAlike(fails[best], could)) best = i;
                    }
                    Due.due("parts of " + net, seen(net, fails, made, many).parts(), best);
                }
            }
        }
    }

    private static int mostAlike(int[] fails, List<Integer> could) {
        int most = 0;
        for (int one : could) {
            int alike = 0;
            for (int other : could) if (fails[one] == fails[other]) alike++;
            most = Math.max(most, alike);
        }
        return most;
    }

    private static void statesKept() {
        Due.sentence(38, "states kept");
        WishToChip x = Due.built("p=a;", "q=b;");
        x.state(0x64);
        x.start(9);
        x.ends(Due.bits("q"));
        Due.due("keep", x.keep(), 1);
        Due.rebuild(x, 0, "r=c;s=d;");
        Due.rebuild(x, 1, "");
        x.start(2);
        x.ends(0);
        Due.due("back", x.back(), 0);
        Due.due("THE WISH's LINES", x.count(2) * 10 + x.line(0, 15, 0), 11);
        Due.due("THE NET's LINES", x.count(3) * 10 + x.line(1, 16, 0), 11);
        Due.due("registers", x.state(0), 0x64);
        Due.due("START", x.start(0), 9);
        Due.due("ENDS", x.ends(0), Due.bits("q"));
    }
}
