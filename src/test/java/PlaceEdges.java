/** Promises 22 to 27: each sentence of the document that names an edge of BLOCKS, NETS, PLACES, WIRE. */
public final class PlaceEdges {
    private static final int BAD = Due.BAD, NO = Due.NO, FULL = Due.FULL;
    private static final int MOST_BLOCKS = 7, MOST_NETS = 8, PLACES = 8;

    public static void main(String[] args) {
        numbersOfBlocks();
        lowestFree();
        setsOfBlocks();
        mostNets();
        placesOfBlocks();
        anotherOneIsThere();
        wireOfTwo();
        wireOfMany();
        numbersOfNets();
        leastOfAllWays();
        lowerPlaces();
        leastByNumbers();
        swappedOrNot();
        firstPairOfSeveral();
        againAndAgain();
        Due.end();
    }

    // ---- promise 22

    private static void numbersOfBlocks() {
        Due.sentence(22, "BLOCKS 0 to 6 as they come");
        WishToChip x = new WishToChip();
        for (int k = 0; k < MOST_BLOCKS; k++) {
            Due.due("BLOCKS ahead of it", x.count(4), k);
            Due.due("block", x.block(), k);
        }
        Due.sentence(22, "A BLOCK: its number. FULL: 7.");
        for (int k = 0; k < 3; k++) Due.due("an eighth", x.block(), FULL);
        Due.due("BLOCKS", x.count(4), MOST_BLOCKS);
        for (int k = 0; k < MOST_BLOCKS; k++) Due.due("its PLACE", Due.placeOf(x, k), k);
        Due.due("PLACE 7 is free", x.place(0, 7), 0);
    }

    private static void lowestFree() {
        Due.sentence(22, "Each BLOCK has a PLACE of its own; a new one gets the lowest free.");
        for (int free = 0; free < PLACES; free++) {
            WishToChip x = Due.blocks(1);
            x.place(0, free);
            Due.due("a second BLOCK", x.block(), 1);
            Due.due("the lowest beside " + free, Due.placeOf(x, 1), free == 0 ? 1 : 0);
        }
        for (int free = 0; free < MOST_BLOCKS - 1; free++) {
            WishToChip x = Due.blocks(6);
            x.place(free, 7);
            Due.due("the seventh BLOCK", x.block(), 6);
            Due.due("the gap at " + free, Due.placeOf(x, 6), free);
        }
        WishToChip last = Due.blocks(6);
        Due.due("the seventh BLOCK", last.block(), 6);
        Due.due("the first behind all", Due.placeOf(last, 6), 6);
        WishToChip swapped = Due.blocks(3, 3, 5);
        swapped.swap();
        swapped.block();
        Due.due("behind swap", Due.placeOf(swapped, 3), 3);
        WishToChip high = Due.blocks(2);
        high.place(0, 7);
        high.place(1, 6);
        for (int k = 2; k < MOST_BLOCKS; k++) {
            high.block();
            Due.due("from PLACE 0 on", Due.placeOf(high, k), k - 2);
        }
    }

    // ---- promise 23

    private static void setsOfBlocks() {
        Due.sentence(23, "A NET of BLOCKS (bits, two or more): how many. BAD; FULL.");
        for (int many = 0; many <= MOST_BLOCKS; many++) {
            for (int bits = -2; bits <= 260; bits++) {
                WishToChip x = Due.blocks(many);
                boolean told = bits > 0 && bits < 1 << many && Integer.bitCount(bits) >= 2;
                Due.due("net(" + bits + ") of " + many, x.net(bits), told ? 1 : BAD);
                Due.due("NETS", x.count(5), told ? 1 : 0);
            }
        }
        WishToChip x = Due.blocks(2);
        Due.due("BLOCK 2 is not there yet", x.net(6), BAD);
        x.block();
        Due.due("BLOCK 2 is there", x.net(6), 1);
    }

    private static void mostNets() {
        Due.sentence(23, "NETS, 8 at most, are sets of BLOCKS (two or more)");
        WishToChip x = Due.blocks(3);
        int[] nets = {3, 5, 6, 7, 3, 3, 7, 5};
        for (int k = 0; k < MOST_NETS; k++) Due.due("net", x.net(nets[k]), k + 1);
        Due.due("a ninth", x.net(3), FULL);
        Due.due("a ninth of no BLOCKS", x.net(0), BAD);
        Due.due("a ninth of one BLOCK", x.net(4), BAD);
        Due.due("a ninth of BLOCKS that are not there", x.net(9), BAD);
        Due.due("NETS", x.count(5), MOST_NETS);
        for (int k = 0; k < MOST_NETS; k++) {
            Due.due("WIRE of NET " + k, x.wire(k), nets[k] == 5 || nets[k] == 7 ? 2 : 1);
        }
    }

    // ---- promise 24

    private static void placesOfBlocks() {
        Due.sentence(24, "A BLOCK goes to a PLACE: where it was.");
        WishToChip x = Due.blocks(1);
        int was = 0;
        for (int place = -2; place <= 10; place++) {
            boolean told = place >= 0 && place < PLACES;
            Due.due("place(0, " + place + ")", x.place(0, place), told ? was : BAD);
            if (told) was = place;
        }
        Due.due("where it is already", x.place(0, 7), 7);
        for (int many = 0; many <= MOST_BLOCKS; many++) {
            WishToChip y = Due.blocks(many);
            for (int block = -2; block <= 9; block++) {
                boolean told = block >= 0 && block < many;
                Due.due("BLOCK " + block + " of " + many, y.place(block, 7), told ? block : BAD);
                if (told) y.place(block, block);
            }
        }
    }

    private static void anotherOneIsThere() {
        Due.sentence(24, "BAD; NO: another one is there.");
        WishToChip x = Due.blocks(MOST_BLOCKS);
        for (int block = 0; block < MOST_BLOCKS; block++) {
            for (int place = 0; place < MOST_BLOCKS; place++) {
                Due.due("BLOCK " + block + " to " + place, x.place(block, place), block == place ? place : NO);
            }
        }
        for (int block = 0; block < MOST_BLOCKS; block++) Due.due("all stay", Due.placeOf(x, block), block);
        Due.due("the one that is free", x.place(3, 7), 3);
        Due.due("now taken", x.place(4, 7), NO);
        Due.due("now free", x.place(4, 3), 4);
        Due.due("no BLOCK, and a PLACE where one is", Due.blocks(1).place(1, 0), BAD);
    }

    // ---- promise 25

    private static void wireOfTwo() {
        Due.sentence(25, "PLACES 0 to 7 (row: PLACE by 4, cut; column: what is left).");
        for (int one = 0; one < PLACES; one++) {
            for (int other = 0; other < PLACES; other++) {
                if (one != other) {
                    WishToChip x = laid(one, other);
                    x.net(3);
                    int due = Math.abs(one / 4 - other / 4) + Math.abs(one % 4 - other % 4);
                    Due.due("WIRE of " + one + " and " + other, x.wire(0), due);
                    Due.due("of all", x.wire(-1), due);
                }
            }
        }
    }

    /** BLOCKS on these PLACES; each waits on one that is not among them until the last has come. */
    private static WishToChip laid(int... places) {
        WishToChip x = Due.blocks(places.length);
        for (int round = 0; round < PLACES; round++) {
            for (int block = 0; block < places.length; block++) {
                if (x.place(block, places[block]) == NO) {
                    for (int away = PLACES - 1; away >= 0; away--) {
                        if (isNone(away, places) && x.place(block, away) != NO) break;
                    }
                }
            }
        }
        for (int block = 0; block < places.length; block++) {
            if (Due.placeOf(x, block) != places[block]) Due.fail("could not lay BLOCK " + block + " on " + places[block]);
        }
        return x;
    }

    private static boolean isNone(int place, int[] places) {
        for (int one : places) if (one == place) return false;
        return true;
    }

    private static void wireOfMany() {
        Due.sentence(25, "WIRE of a NET: the rows, the columns from the least to the greatest of its BLOCKS, together; of all NETS together.");
        WishToChip x = laid(0, 5, 3, 6);
        for (int net : new int[] {3, 5, 15, 10, 12}) x.net(net);
        Due.due("0 and 5", x.wire(0), 2);
        Due.due("0 and 3", x.wire(1), 3);
        Due.due("all four", x.wire(2), 4);
        Due.due("5 and 6", x.wire(3), 1);
        Due.due("3 and 6", x.wire(4), 2);
        Due.due("all NETS", x.wire(-1), 12);
        WishToChip row = Due.blocks(4, 15);
        Due.due("a whole row", row.wire(0), 3);
        WishToChip most = laid(0, 7);
        for (int k = 0; k < MOST_NETS; k++) most.net(3);
        Due.due("the most of all: eight by 4", most.wire(-1), 32);
        WishToChip column = laid(1, 5);
        column.net(3);
        Due.due("a column", column.wire(0), 1);
    }

    private static void numbersOfNets() {
        Due.sentence(25, "WIRE of a NET; net = -1: of all. BAD.");
        for (int many = 0; many <= MOST_NETS; many++) {
            WishToChip x = Due.blocks(2);
            for (int k = 0; k < many; k++) x.net(3);
            for (int net = -3; net <= 10; net++) {
                boolean told = net >= 0 && net < many;
                Due.due("wire(" + net + ") of " + many, x.wire(net), net == -1 ? many : told ? 1 : BAD);
            }
        }
    }

    // ---- promise 26

    private static void dueLeast(WishToChip x, int wire, int... places) {
        Due.due("the least WIRE", x.least(-1), wire);
        for (int block = 0; block < places.length; block++) Due.due("PLACE of " + block, x.least(block), places[block]);
        Due.due("no BLOCK", x.least(places.length), BAD);
    }

    private static void leastOfAllWays() {
        Due.sentence(26, "LEAST: the least WIRE of all ways to lay them");
        dueLeast(new WishToChip(), 0);
        dueLeast(Due.blocks(1), 0, 0);
        dueLeast(Due.blocks(MOST_BLOCKS), 0, 0, 1, 2, 3, 4, 5, 6);
        int[] spans = {0, 0, 1, 2, 2, 3, 3, 4};
        for (int many = 2; many <= MOST_BLOCKS; many++) {
            Due.due("one NET of all " + many, Due.blocks(many, (1 << many) - 1).least(-1), spans[many]);
        }
        WishToChip eight = Due.blocks(MOST_BLOCKS);
        for (int k = 0; k < MOST_NETS; k++) eight.net(127);
        dueLeast(eight, 32, 0, 1, 2, 3, 4, 5, 6);
        WishToChip away = laid(7, 3, 5);
        away.net(3);
        away.net(6);
        dueLeast(away, 2, 0, 1, 2);
        Due.due("BLOCKS stay where they lie", Due.placeOf(away, 0) * 100 + Due.placeOf(away, 1) * 10 + Due.placeOf(away, 2), 735);
        Due.due("WIRE stays", away.wire(-1), 4);
    }

    /** By trying every way; few enough for up to four BLOCKS. */
    private static void dueAsTried(int many, int... nets) {
        int[] best = null;
        int least = Due.HIGH;
        for (int way = 0; way < 1 << 3 * many; way++) {
            int[] places = new int[many];
            int taken = 0;
            for (int block = 0; block < many; block++) {
                places[block] = way >> 3 * (many - 1 - block) & 7;
                taken |= 1 << places[block];
            }
            int wire = wireOf(places, nets);
            if (Integer.bitCount(taken) == many && wire < least) {
                least = wire;
                best = places;
            }
        }
        dueLeast(Due.blocks(many, nets), least, best);
    }

    private static int wireOf(int[] places, int[] nets) {
        int all = 0;
        for (int net : nets) {
            int lowRow = 9, highRow = -9, lowColumn = 9, highColumn = -9;
            for (int block = 0; block < places.length; block++) {
                if ((net >> block & 1) != 0) {
                    lowRow = Math.min(lowRow, places[block] / 4);
                    highRow = Math.max(highRow, places[block] / 4);
                    lowColumn = Math.min(lowColumn, places[block] % 4);
                    highColumn = Math.max(highColumn, places[block] % 4);
                }
            }
            all += highRow - lowRow + highColumn - lowColumn;
        }
        return all;
    }

    private static void lowerPlaces() {
        Due.sentence(26, "that by which PLACES are lower, from BLOCK 0 on");
        for (int one = 3; one < 16; one++) {
            if (Integer.bitCount(one) < 2) continue;
            dueAsTried(4, one);
            for (int other = one; other < 16; other++) {
                if (Integer.bitCount(other) < 2) continue;
                dueAsTried(4, one, other);
                dueAsTried(4, one, other, 12, 9);
            }
        }
        dueAsTried(2, 3);
        dueAsTried(3, 3, 5);
        dueAsTried(4, 3, 5, 9);
        dueAsTried(4, 12, 12, 12, 12, 12, 12, 12, 3);
        dueAsTried(5, 3, 5, 9, 17);
        dueAsTried(6, 33, 34, 36, 40);
    }

    private static void leastByNumbers() {
        Due.sentence(26, "LEAST: the WIRE (block = -1), the PLACE of a BLOCK by it. BAD.");
        for (int many = 0; many <= MOST_BLOCKS; many++) {
            WishToChip x = Due.blocks(many);
            for (int block = -3; block <= 9; block++) {
                boolean told = block >= 0 && block < many;
                Due.due("least(" + block + ") of " + many, x.least(block), block == -1 ? 0 : told ? block : BAD);
            }
        }
        WishToChip x = Due.blocks(2, 3);
        Due.due("ahead of another NET", x.least(-1), 1);
        x.net(3);
        Due.due("with it", x.least(-1), 2);
        x.block();
        Due.due("with another BLOCK", x.least(2), 2);
        x.net(6);
        Due.due("with a NET of it", x.least(-1), 3);
    }

    // ---- promise 27

    private static void swappedOrNot() {
        Due.sentence(27, "SWAPPED: how often.");
        Due.due("without BLOCKS", new WishToChip().swap(), 0);
        Due.due("without NETS", Due.blocks(MOST_BLOCKS).swap(), 0);
        Due.sentence(27, "that by which WIRE is least, of several the first, if it is less than it was");
        WishToChip best = Due.blocks(2, 3);
        Due.due("as little as can be", best.swap(), 0);
        Due.due("nothing moved", Due.placeOf(best, 0) * 10 + Due.placeOf(best, 1), 1);
        WishToChip even = Due.blocks(MOST_BLOCKS, 127);
        Due.due("no pair by which it is less", even.swap(), 0);
        for (int block = 0; block < MOST_BLOCKS; block++) Due.due("nothing moved", Due.placeOf(even, block), block);
        WishToChip once = laid(0, 2);
        once.net(3);
        Due.due("less by one", once.swap(), 1);
        Due.due("WIRE", once.wire(-1), 1);
        Due.due("no more", once.swap(), 0);
    }

    private static void firstPairOfSeveral() {
        Due.sentence(27, "SWAPPED: two PLACES (what lies there; at least one BLOCK) change: of all pairs (the lower first)");
        WishToChip x = laid(0, 7);
        x.net(3);
        Due.due("once", x.swap(), 1);
        Due.due("0 and 3 ahead of 0 and 6, 1 and 7, 4 and 7", Due.placeOf(x, 0) * 10 + Due.placeOf(x, 1), 37);
        WishToChip two = Due.blocks(3, 3, 5);
        Due.due("once", two.swap(), 1);
        Due.due("both BLOCKS change", Due.placeOf(two, 0) * 10 + Due.placeOf(two, 1), 10);
        Due.due("the third stays", Due.placeOf(two, 2), 2);
        WishToChip free = laid(7, 5);
        free.net(3);
        Due.due("once", free.swap(), 1);
        Due.due("1 and 7 would be as good as 3 and 5, 5 and 6, 6 and 7", Due.placeOf(free, 0) * 10 + Due.placeOf(free, 1), 15);
        WishToChip greatest = laid(0, 3, 7);
        greatest.net(3);
        greatest.net(5);
        Due.due("0 and 2, by which it is least, not 0 and 1, which helps too; then 1 and 7", greatest.swap(), 2);
        Due.due("PLACES", Due.placeOf(greatest, 0) * 100 + Due.placeOf(greatest, 1) * 10 + Due.placeOf(greatest, 2), 231);
    }

    /** The same in plain steps. */
    private static int swapsOf(int[] places, int[] nets) {
        for (int swaps = 0; ; swaps++) {
            int least = wireOf(places, nets);
            int[] best = null;
            for (int lower = 0; lower < PLACES; lower++) {
                for (int upper = lower + 1; upper < PLACES; upper++) {
                    int[] changed = places.clone();
                    for (int block = 0; block < places.length; block++) {
                        if (places[block] == lower) changed[block] = upper;
                        if (places[block] == upper) changed[block] = lower;
                    }
                    if (wireOf(changed, nets) < least) {
                        least = wireOf(changed, nets);
                        best = changed;
                    }
                }
            }
            if (best == null) return swaps;
            System.arraycopy(best, 0, places, 0, places.length);
        }
    }

    private static void againAndAgain() {
        Due.sentence(27, "if it is less than it was; again and again");
        int most = 0;
        for (int number = 0; number < 300; number++) {
            int[] nets = new int[1 + number % MOST_NETS];
            for (int k = 0; k < nets.length; k++) {
                nets[k] = 1 << (number + 3 * k) % 7 | 1 << (number * 5 + k * k + 1) % 7 | (number * (k + 7)) % 128;
                if (Integer.bitCount(nets[k]) < 2) nets[k] = 65;
            }
            int[] places = {0, 1, 2, 3, 4, 5, 6};
            int due = swapsOf(places, nets);
            most = Math.max(most, due);
            WishToChip x = Due.blocks(MOST_BLOCKS, nets);
            Due.due("how often, number " + number, x.swap(), due);
            for (int block = 0; block < MOST_BLOCKS; block++) Due.due("PLACE of " + block + ", number " + number, Due.placeOf(x, block), places[block]);
            Due.due("none helps any more", x.swap(), 0);
        }
        Due.due("some of them several times", most >= 3 ? 1 : 0, 1);
    }
}
