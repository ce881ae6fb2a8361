import java.util.Arrays;

/**
 * All that an object tells, so that an object behind a refused call can be held against one without that call.
 * Together it takes more calls than an object has: each part is for a new pair of objects. It asks for BLOCKS, NETS and
 * TRIALS that there are alone: what a refused call would spoil must not be spoilt on both sides by asking.
 */
final class Whole {
    static final int PARTS = 5;
    /** With what was called ahead of it an object stays below its 512 calls. */
    static final int MOST_CALLS = 400;

    private final WishToChip x;
    private final int[] told = new int[MOST_CALLS];
    private int size = 0;

    private Whole(WishToChip x) {
        this.x = x;
    }

    static int[] tell(WishToChip x, int part) {
        Whole whole = new Whole(x);
        switch (part) {
            case 0: whole.textsAndTimes(); break;
            case 1: whole.stepsAndTruth(); break;
            case 2: whole.faults(); break;
            case 3: whole.numbersAndPlaces(); break;
            default: whole.whatComesLater(); break;
        }
        return Arrays.copyOf(whole.told, whole.size);
    }

    private void add(int answer) {
        told[size++] = answer;
    }

    private void counts() {
        for (int what = 0; what <= 8; what++) add(x.count(what));
    }

    private void textsAndTimes() {
        counts();
        for (int view = 0; view < 2; view++) {
            add(x.fault(view));
            add(x.ring(view, 0));
            add(x.ring(view, 1));
            add(x.cover(view, -1));
            for (int name = 6; name <= 18; name++) {
                for (int what = 0; what <= 2; what++) add(x.line(view, name, what));
                for (int corner = 0; corner <= 2; corner++) add(x.arrival(view, name, corner));
                add(x.cover(view, name));
            }
            for (int corner = 0; corner <= 2; corner++) {
                for (int i = -2; i <= 3; i++) add(x.worst(view, corner, i));
            }
        }
    }

    private void stepsAndTruth() {
        counts();
        for (int name = 0; name <= 18; name++) add(x.value(name));
        add(x.states());
        add(x.touched());
        for (int name = 6; name <= 18; name++) add(x.differ(name));
        for (int view = 0; view < 2; view++) {
            for (int name = 0; name <= 18; name++) {
                add(x.ones(view, name));
                for (int row : new int[] {0, 341, 682, 1023}) add(x.truth(view, name, row));
            }
        }
    }

    private void faults() {
        for (int fault = 0; fault < 38; fault++) {
            add(x.finds(fault));
            for (int row : new int[] {0, 427, 596, 1023}) add(x.fails(fault, row));
        }
        for (int i = -1; i <= 39; i++) add(x.could(i));
        add(x.parts());
        add(x.fewest(0));
        add(x.fewest(1));
    }

    private void places() {
        int blocks = x.count(4);
        for (int block = 0; block < blocks; block++) add(Due.placeOf(x, block));
    }

    private void told() {
        int registers = x.state(0);
        x.state(registers);
        add(registers);
        int start = x.start(0);
        x.start(start);
        add(start);
        int ends = x.ends(0);
        x.ends(ends);
        add(ends);
    }

    private void numbersAndPlaces() {
        told();
        int trials = x.count(6);
        for (int i = 0; i < trials; i++) {
            int seen = x.see(i, -1);
            x.see(i, seen);
            add(seen);
        }
        for (int kind = 0; kind < 7; kind++) {
            for (int what = 0; what < 2; what++) {
                int was = x.gate(kind, what, 1);
                x.gate(kind, what, was);
                add(was);
            }
        }
        for (int what = 0; what < 5; what++) {
            int was = x.rule(what, what < 3 ? 50 : 1);
            x.rule(what, was);
            add(was);
        }
        places();
        int nets = x.count(5);
        for (int net = -1; net < nets; net++) add(x.wire(net));
        int blocks = x.count(4);
        for (int block = -1; block < blocks; block++) add(x.least(block));
        add(x.swap());
        places();
        add(x.wire(-1));
    }

    /** What calls that change things make of it: STEPS, TEXTS that are BUILT, BLOCKS and TRIALS that come, what is KEPT. */
    private void whatComesLater() {
        add(x.step(21, 10));
        add(x.step(42, 1));
        for (int name = 0; name <= 18; name++) add(x.value(name));
        for (int round = 0; round < 3; round++) {
            add(x.back());
            told();
            add(x.states());
            for (int name = 6; name <= 18; name++) {
                add(x.line(0, name, 0));
                add(x.ones(0, name));
                add(x.line(1, name, 1));
                add(x.ones(1, name));
            }
        }
        add(x.build(0));
        add(x.build(1));
        counts();
        add(x.write(0, 1, 'g'));
        add(x.fault(0));
        add(x.write(1, 1, ';'));
        add(x.fault(1));
        add(x.clear(0));
        add(x.clear(1));
        add(x.block());
        add(x.net(3));
        add(x.trial(7));
        add(x.keep());
        add(x.noTrials());
        counts();
    }
}
