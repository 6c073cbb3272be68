import java.util.ArrayList;
import java.util.List;

/**
 * Runs of calls beside a model that tries every set of long branches: the smallest one with which
 * all reach is the one that is due, and it is in every other such set.
 */
public final class FewestLongTest {
    private static final int RUNS = 3000;
    private static final int CALLS = 60;
    private static final int MOST_BRANCHES = 9;

    private static final Answers ANSWERS = new Answers();

    /** An item: a stretch has words, a branch has a target of 0 or more, a mark neither. */
    private record Item(boolean isMark, int words, int target) {
        boolean isBranch() {
            return target >= 0;
        }
    }

    private final int run;
    private final BranchLengths x = new BranchLengths();
    private final List<Item> row = new ArrayList<>();
    private int reach = 1000;
    private int least = -1;
    private boolean laid = false;
    private int[] places = new int[0];
    private int longSet = 0;
    private long seed;

    private FewestLongTest(int run) {
        this.run = run;
        this.seed = run;
    }

    public static void main(String[] args) {
        for (int run = 0; run < RUNS; run++) {
            new FewestLongTest(run).go();
        }
        ANSWERS.end();
    }

    /** The same numbers in every run of the tests, so that a failure can be seen again. */
    private int below(int bound) {
        seed = seed * 6364136223846793005L + 1442695040888963407L;
        return (int) ((seed >>> 33) % bound);
    }

    private void go() {
        setReach(1 + below(12));
        for (int call = 0; call < CALLS; call++) {
            step();
            askAll();
        }
    }

    private void step() {
        int kind = below(24);
        if (kind < 7) {
            add(new Item(false, below(5), -1));
        } else if (kind < 11) {
            add(new Item(true, 0, -1));
        } else if (kind < 17 && branches().size() < MOST_BRANCHES) {
            add(new Item(false, 0, below(5)));
        } else if (kind < 21) {
            due("lay", x.lay(), modelLay());
        } else if (kind < 22) {
            setReach(below(14));
        } else if (kind < 23) {
            refused();
        } else if (below(4) == 0) {
            x.clear();
            row.clear();
            laid = false;
        }
    }

    private void add(Item item) {
        int want = row.size();
        row.add(item);
        laid = false;
        if (item.isMark()) {
            due("mark", x.mark(), want);
        } else if (item.isBranch()) {
            due("branch", x.branch(item.target()), want);
        } else {
            due("stretch", x.stretch(item.words()), want);
        }
    }

    private void setReach(int r) {
        boolean fits = r >= 1;
        ANSWERS.due("run " + run + ": reach", x.reach(r), fits);
        if (fits) {
            reach = r;
            laid = false;
        }
    }

    private void refused() {
        due("stretch", x.stretch(4001 + below(9)), -1);
        due("branch", x.branch(-1 - below(9)), -1);
    }

    private void askAll() {
        due("items", x.items(), row.size());
        due("marks", x.marks(), markItems().size());
        due("least", x.least(), least);
        due("longs", x.longs(), laid ? Integer.bitCount(longSet) : -1);
        List<Integer> branches = branches();
        for (int item = -1; item <= row.size(); item++) {
            boolean there = laid && item >= 0 && item < row.size();
            due("place", x.place(item), there ? places[item] : -1);
            int number = branches.indexOf(item);
            boolean isLong = there && number >= 0 && (longSet >> number & 1) == 1;
            ANSWERS.due("run " + run + ": isLong", x.isLong(item), isLong);
        }
    }

    private int modelLay() {
        List<Integer> branches = branches();
        List<Integer> markItems = markItems();
        least = -1;
        laid = false;
        for (int item : branches) {
            if (row.get(item).target() >= markItems.size()) {
                least = item;
                return -1;
            }
        }
        laid = true;
        longSet = fewest(branches, markItems);
        int[] ends = placesWith(longSet, branches);
        places = ends;
        return ends[row.size()];
    }

    private int fewest(List<Integer> branches, List<Integer> markItems) {
        int best = -1;
        int common = -1;
        for (int set = 0; set < 1 << branches.size(); set++) {
            if (allReach(set, branches, markItems)) {
                common &= set;
                if (best < 0 || Integer.bitCount(set) < Integer.bitCount(best)) {
                    best = set;
                }
            }
        }
        due("the model: what is long in all", common, best);
        return best;
    }

    private boolean allReach(int set, List<Integer> branches, List<Integer> markItems) {
        int[] at = placesWith(set, branches);
        for (int number = 0; number < branches.size(); number++) {
            int item = branches.get(number);
            int way = at[markItems.get(row.get(item).target())] - at[item];
            if ((set >> number & 1) == 0 && Math.abs(way) > reach) {
                return false;
            }
        }
        return true;
    }

    /** The places of all items, and behind them that of the row's end. */
    private int[] placesWith(int set, List<Integer> branches) {
        int[] at = new int[row.size() + 1];
        int number = 0;
        for (int item = 0; item < row.size(); item++) {
            int words = row.get(item).words();
            if (row.get(item).isBranch()) {
                words = 1 + (set >> number & 1);
                number++;
            }
            at[item + 1] = at[item] + words;
        }
        return at;
    }

    private List<Integer> branches() {
        List<Integer> found = new ArrayList<>();
        for (int item = 0; item < row.size(); item++) {
            if (row.get(item).isBranch()) {
                found.add(item);
            }
        }
        return found;
    }

    private List<Integer> markItems() {
        List<Integer> found = new ArrayList<>();
        for (int item = 0; item < row.size(); item++) {
            if (row.get(item).isMark()) {
                found.add(item);
            }
        }
        return found;
    }

    private void due(String call, int got, int want) {
        ANSWERS.due("run " + run + ": " + call, got, want);
    }
}
