/** For each promise: ordinary inputs, the edges that the document names, and wrong inputs. */
public final class PromisesTest {
    private static final Answers ANSWERS = new Answers();

    public static void main(String[] args) {
        newObject();
        newReachIsOneThousand();
        stretch();
        stretchUndoesLayout();
        mark();
        branch();
        fullRow();
        reach();
        reachEdges();
        lay();
        lengtheningSpreads();
        least();
        place();
        isLong();
        longs();
        clear();
        itemsAndMarks();
        objectsAreApart();
        ANSWERS.end();
    }

    private static void due(String call, int got, int want) {
        ANSWERS.due(call, got, want);
    }

    private static void due(String call, boolean got, boolean want) {
        ANSWERS.due(call, got, want);
    }

    /** A branch over words to mark 0 behind them, laid out with the given reach. */
    private static BranchLengths forward(int reach, int between) {
        BranchLengths x = new BranchLengths();
        x.reach(reach);
        x.branch(0);
        addWords(x, between);
        x.mark();
        x.lay();
        return x;
    }

    /** A branch back over words to mark 0 before them, laid out with the given reach. */
    private static BranchLengths backward(int reach, int between) {
        BranchLengths x = new BranchLengths();
        x.reach(reach);
        x.mark();
        addWords(x, between);
        x.branch(0);
        x.lay();
        return x;
    }

    private static void addWords(BranchLengths x, int words) {
        int left = words;
        while (left > 4000) {
            x.stretch(4000);
            left -= 4000;
        }
        x.stretch(left);
    }

    private static void newObject() {
        BranchLengths x = new BranchLengths();
        due("1 items", x.items(), 0);
        due("1 marks", x.marks(), 0);
        due("1 least", x.least(), -1);
        due("1 longs", x.longs(), -1);
        due("1 place", x.place(0), -1);
        due("1 isLong", x.isLong(0), false);
        due("1 lay", x.lay(), 0);
        due("1 longs of the empty row", x.longs(), 0);
        due("1 place in the empty row", x.place(0), -1);
    }

    private static void newReachIsOneThousand() {
        BranchLengths x = new BranchLengths();
        x.branch(0);
        x.stretch(999);
        x.mark();
        due("1 way 1000", x.lay(), 1000);
        x.clear();
        x.branch(0);
        x.stretch(1000);
        x.mark();
        due("1 way 1001", x.lay(), 1002);
    }

    private static void stretch() {
        BranchLengths x = new BranchLengths();
        due("2 stretch(0)", x.stretch(0), 0);
        due("2 stretch(4000)", x.stretch(4000), 1);
        due("2 stretch(4001)", x.stretch(4001), -1);
        due("2 stretch(-1)", x.stretch(-1), -1);
        due("2 stretch(greatest)", x.stretch(Integer.MAX_VALUE), -1);
        due("2 stretch(smallest)", x.stretch(Integer.MIN_VALUE), -1);
        due("2 items", x.items(), 2);
        due("2 stretch(7)", x.stretch(7), 2);
        due("2 lay", x.lay(), 4007);
        due("2 no marks", x.marks(), 0);
    }

    private static void stretchUndoesLayout() {
        BranchLengths x = forward(10, 3);
        due("2 laid out", x.longs(), 0);
        due("2 refused, above", x.stretch(4001), -1);
        due("2 refused, below", x.stretch(-1), -1);
        due("2 a refused one leaves the layout", x.longs(), 0);
        due("2 added", x.stretch(1), 3);
        due("2 an added one undoes it", x.longs(), -1);
        due("2 place", x.place(0), -1);
        due("2 lay", x.lay(), 5);
    }

    private static void mark() {
        BranchLengths x = new BranchLengths();
        due("3 first", x.mark(), 0);
        due("3 second", x.mark(), 1);
        x.stretch(5);
        due("3 third", x.mark(), 3);
        due("3 marks", x.marks(), 3);
        due("3 a mark has no words", x.lay(), 5);
        due("3 place", x.place(3), 5);
        due("3 fourth", x.mark(), 4);
        due("3 not laid out", x.longs(), -1);
    }

    private static void branch() {
        BranchLengths x = new BranchLengths();
        due("4 branch(-1)", x.branch(-1), -1);
        due("4 branch(smallest)", x.branch(Integer.MIN_VALUE), -1);
        due("4 items", x.items(), 0);
        due("4 forward", x.branch(0), 0);
        x.mark();
        due("4 back", x.branch(0), 2);
        due("4 lay", x.lay(), 2);
        due("4 refused", x.branch(-1), -1);
        due("4 a refused one leaves the layout", x.longs(), 0);
        due("4 third", x.branch(1), 3);
        due("4 not laid out", x.longs(), -1);
        due("4 no mark yet", x.lay(), -1);
        due("4 the mark", x.mark(), 4);
        due("4 lay again", x.lay(), 3);
        due("4 greatest mark number", x.branch(Integer.MAX_VALUE), 5);
        due("4 that is not there", x.lay(), -1);
        due("4 no marks were made by branches", x.marks(), 2);
    }

    /** Goes beyond 512 calls, where no answer is promised, as only so the named limit is met. */
    private static void fullRow() {
        BranchLengths x = new BranchLengths();
        for (int i = 0; i < 1999; i++) {
            due("2 to 4 filling", i % 2 == 0 ? x.mark() : x.stretch(4000), i);
        }
        due("4 the last item", x.branch(999), 1999);
        due("2 full", x.stretch(0), -1);
        due("3 full", x.mark(), -1);
        due("4 full", x.branch(0), -1);
        due("12 full", x.items(), 2000);
        due("13 full", x.marks(), 1000);
        due("6 full", x.lay(), 999 * 4000 + 1);
        due("2 full and laid out", x.stretch(1), -1);
        due("3 full and laid out", x.mark(), -1);
        due("4 full and laid out", x.branch(1), -1);
        due("10 still laid out", x.longs(), 0);
        due("8 the last", x.place(1999), 999 * 4000);
        due("8 behind the last", x.place(2000), -1);
        due("9 behind the last", x.isLong(2000), false);
        x.clear();
        for (int i = 0; i < 2000; i++) {
            due("3 filling with marks", x.mark(), i);
        }
        due("3 full of marks", x.mark(), -1);
        due("13 full of marks", x.marks(), 2000);
    }

    private static void reach() {
        BranchLengths x = forward(10, 10);
        due("5 laid out", x.longs(), 1);
        due("5 reach(0)", x.reach(0), false);
        due("5 reach(-1)", x.reach(-1), false);
        due("5 reach(100001)", x.reach(100001), false);
        due("5 reach(greatest)", x.reach(Integer.MAX_VALUE), false);
        due("5 reach(smallest)", x.reach(Integer.MIN_VALUE), false);
        due("5 a refused one leaves the layout", x.longs(), 1);
        due("5 lay with the reach that stayed", x.lay(), 12);
        due("5 reach(11)", x.reach(11), true);
        due("5 not laid out", x.longs(), -1);
        due("5 lay", x.lay(), 11);
        due("5 the same reach again", x.reach(11), true);
        due("5 not laid out either", x.longs(), -1);
        due("5 reach(1)", x.reach(1), true);
        due("5 lay with reach 1", x.lay(), 12);
        due("5 reach(100000)", x.reach(100000), true);
        due("5 lay with reach 100000", x.lay(), 11);
    }

    private static void reachEdges() {
        int[] reaches = {1, 2, 10, 1000, 5000, 100000};
        for (int r : reaches) {
            due("5 forward, just reached, " + r, forward(r, r - 1).longs(), 0);
            due("5 forward, one too far, " + r, forward(r, r).longs(), 1);
            due("5 backward, just reached, " + r, backward(r, r).longs(), 0);
            due("5 backward, one too far, " + r, backward(r, r + 1).longs(), 1);
        }
    }

    private static void lay() {
        BranchLengths x = new BranchLengths();
        x.reach(4);
        x.branch(0);
        x.stretch(3);
        x.mark();
        due("6 all short", x.lay(), 4);
        due("6 again", x.lay(), 4);
        x.stretch(2);
        x.branch(0);
        due("6 a second branch", x.lay(), 7);
        x.branch(0);
        x.branch(0);
        due("6 the last is too far", x.lay(), 9);
        due("6 the first stays short", x.isLong(0), false);
        x.stretch(1);
        x.branch(0);
        due("6 two long", x.lay(), 12);
        x.branch(1);
        due("6 a mark is not there", x.lay(), -1);
        due("6 not laid out: place", x.place(0), -1);
        due("6 not laid out: isLong", x.isLong(7), false);
        due("6 not laid out: longs", x.longs(), -1);
    }

    /** Each long branch pushes the next one out of reach, and a wider reach takes it all back. */
    private static void lengtheningSpreads() {
        int links = 60;
        int stretched = 1 + (links - 1) * 6 + 8;
        BranchLengths x = new BranchLengths();
        x.reach(9);
        addChain(x, links);
        due("6 chain", x.lay(), stretched + 2 * links);
        due("10 chain", x.longs(), links);
        due("9 the chain's first", x.isLong(0), true);
        x.reach(10);
        due("6 chain, wider reach", x.lay(), stretched + links);
        due("10 chain, wider reach", x.longs(), 0);
        due("9 the chain's first, wider reach", x.isLong(0), false);
        x.reach(9);
        due("6 chain, first reach", x.lay(), stretched + 2 * links);
    }

    /**
     * Branches whose way to their marks is 9 words while they are short, but for the last one with
     * its 10; each but the last has the next one in its way.
     */
    private static void addChain(BranchLengths x, int links) {
        x.branch(0);
        x.stretch(1);
        for (int i = 1; i < links; i++) {
            x.stretch(5);
            x.branch(i);
            x.stretch(1);
            x.mark();
        }
        x.stretch(8);
        x.mark();
    }

    private static void least() {
        BranchLengths x = new BranchLengths();
        due("7 before any lay", x.least(), -1);
        x.mark();
        x.branch(0);
        x.branch(2);
        x.branch(1);
        due("7 no lay yet", x.least(), -1);
        due("7 lay", x.lay(), -1);
        due("7 the first without a mark", x.least(), 2);
        x.mark();
        due("7 until the next lay", x.least(), 2);
        due("7 lay with two marks", x.lay(), -1);
        due("7 still the first", x.least(), 2);
        x.mark();
        due("7 lay with all marks", x.lay(), 3);
        due("7 none", x.least(), -1);
        x.branch(3);
        due("7 none at the latest lay", x.least(), -1);
        x.lay();
        due("7 the last item", x.least(), 6);
        x.reach(5);
        due("7 reach leaves it", x.least(), 6);
        x.clear();
        due("7 clear leaves it", x.least(), 6);
        due("7 lay of the empty row", x.lay(), 0);
        due("7 none in the empty row", x.least(), -1);
    }

    private static void place() {
        BranchLengths x = new BranchLengths();
        x.reach(3);
        x.stretch(4);
        x.branch(1);
        x.mark();
        x.branch(0);
        x.stretch(2);
        x.mark();
        due("8 not laid out", x.place(0), -1);
        due("8 lay", x.lay(), 9);
        int[] want = {0, 4, 6, 6, 7, 9};
        for (int item = 0; item < want.length; item++) {
            due("8 place(" + item + ")", x.place(item), want[item]);
        }
        due("8 place(6)", x.place(6), -1);
        due("8 place(-1)", x.place(-1), -1);
        due("8 place(2000)", x.place(2000), -1);
        due("8 place(greatest)", x.place(Integer.MAX_VALUE), -1);
        due("8 place(smallest)", x.place(Integer.MIN_VALUE), -1);
    }

    private static void isLong() {
        BranchLengths x = new BranchLengths();
        x.reach(2);
        x.branch(0);
        x.stretch(2);
        x.mark();
        x.branch(0);
        due("9 not laid out", x.isLong(0), false);
        x.lay();
        due("9 a long branch", x.isLong(0), true);
        due("9 a stretch of two words", x.isLong(1), false);
        due("9 a mark", x.isLong(2), false);
        due("9 a short branch", x.isLong(3), false);
        due("9 isLong(4)", x.isLong(4), false);
        due("9 isLong(-1)", x.isLong(-1), false);
        due("9 isLong(2000)", x.isLong(2000), false);
        due("9 isLong(greatest)", x.isLong(Integer.MAX_VALUE), false);
        due("9 isLong(smallest)", x.isLong(Integer.MIN_VALUE), false);
        x.mark();
        due("9 no longer laid out", x.isLong(0), false);
        x.lay();
        due("9 laid out again", x.isLong(0), true);
        x.clear();
        x.stretch(0);
        x.lay();
        due("9 another item with its number", x.isLong(0), false);
    }

    private static void longs() {
        BranchLengths x = new BranchLengths();
        x.reach(3);
        x.mark();
        for (int i = 0; i < 10; i++) {
            x.branch(0);
        }
        due("10 not laid out", x.longs(), -1);
        due("10 lay", x.lay(), 16);
        due("10 six of ten", x.longs(), 6);
        due("10 lay again", x.lay(), 16);
        due("10 six again", x.longs(), 6);
        x.reach(8);
        due("10 after reach", x.longs(), -1);
        x.lay();
        due("10 one of ten", x.longs(), 1);
        x.branch(1);
        x.lay();
        due("10 after a lay that failed", x.longs(), -1);
    }

    private static void clear() {
        BranchLengths x = forward(10, 10);
        x.clear();
        due("11 items", x.items(), 0);
        due("11 marks", x.marks(), 0);
        due("11 longs", x.longs(), -1);
        due("11 place", x.place(0), -1);
        due("11 isLong", x.isLong(0), false);
        due("11 the old mark is gone", x.branch(0), 0);
        due("11 lay", x.lay(), -1);
        due("11 numbers start again", x.stretch(10), 1);
        due("11 marks start again", x.mark(), 2);
        due("11 the reach stays", x.lay(), 12);
        x.clear();
        due("11 the empty row", x.lay(), 0);
        due("11 its longs", x.longs(), 0);
        x.clear();
        due("11 cleared, though it was empty", x.longs(), -1);
    }

    private static void itemsAndMarks() {
        BranchLengths x = new BranchLengths();
        x.stretch(3);
        due("12 one", x.items(), 1);
        due("13 none", x.marks(), 0);
        x.mark();
        due("12 two", x.items(), 2);
        due("13 one", x.marks(), 1);
        x.branch(0);
        due("12 three", x.items(), 3);
        due("13 still one", x.marks(), 1);
        x.stretch(-1);
        x.branch(-1);
        due("12 refused ones don't count", x.items(), 3);
        x.lay();
        due("12 lay leaves it", x.items(), 3);
        due("13 lay leaves it", x.marks(), 1);
        x.reach(7);
        due("12 reach leaves it", x.items(), 3);
        due("13 reach leaves it", x.marks(), 1);
    }

    private static void objectsAreApart() {
        BranchLengths one = forward(10, 10);
        BranchLengths other = forward(20, 10);
        due("1 one", one.longs(), 1);
        due("1 other", other.longs(), 0);
        other.clear();
        due("1 one stays", one.place(2), 12);
    }
}
