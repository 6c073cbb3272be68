/**
 * Lays out code whose branches have a short and a long form: the fewest long ones with which all
 * reach their marks.
 */
public final class BranchLengths {
    private static final int MOST_ITEMS = 2000;
    private static final int MOST_WORDS = 4000;
    private static final int MOST_REACH = 100000;
    private static final int FIRST_REACH = 1000;
    private static final int SHORT_WORDS = 1;
    private static final int LONG_WORDS = 2;
    private static final int NONE = -1;

    private final int[] words;
    // The number of the mark that a branch goes to; NONE tells that an item is no branch.
    private final int[] targets;
    private final int[] places;
    // The item that each mark is.
    private final int[] markItems;
    private int itemCount;
    private int markCount;
    private int longCount;
    private int reachNow;
    private int markless;
    private boolean laidOut;

    public BranchLengths() {
        words = new int[MOST_ITEMS];
        targets = new int[MOST_ITEMS];
        places = new int[MOST_ITEMS];
        markItems = new int[MOST_ITEMS];
        itemCount = 0;
        markCount = 0;
        longCount = 0;
        reachNow = FIRST_REACH;
        markless = NONE;
        laidOut = false;
    }

    public int stretch(int n) {
        if (n < 0 || n > MOST_WORDS) {
            return NONE;
        }
        return append(n, NONE);
    }

    public int mark() {
        if (markCount >= MOST_ITEMS) {
            return NONE;
        }
        int item = append(0, NONE);
        if (item != NONE) {
            markItems[markCount] = item;
            markCount++;
        }
        return item;
    }

    public int branch(int m) {
        if (m < 0) {
            return NONE;
        }
        return append(SHORT_WORDS, m);
    }

    public boolean reach(int r) {
        if (r < 1 || r > MOST_REACH) {
            return false;
        }
        reachNow = r;
        laidOut = false;
        return true;
    }

    public int lay() {
        markless = firstMarkless();
        laidOut = markless == NONE;
        if (!laidOut) {
            return NONE;
        }
        shortenAll();
        int total = setPlaces();
        // Each round lengthens a branch or is the last, so there are no more rounds than items.
        for (int round = 0; round < itemCount; round++) {
            int lengthened = lengthenUnreaching();
            if (lengthened == 0) {
                break;
            }
            longCount += lengthened;
            total = setPlaces();
        }
        return total;
    }

    public int least() {
        return markless;
    }

    public int place(int item) {
        return isLaid(item) ? places[item] : NONE;
    }

    public boolean isLong(int item) {
        return isLaid(item) && isBranch(item) && words[item] == LONG_WORDS;
    }

    public int longs() {
        return laidOut ? longCount : NONE;
    }

    public void clear() {
        itemCount = 0;
        markCount = 0;
        laidOut = false;
    }

    public int items() {
        return itemCount;
    }

    public int marks() {
        return markCount;
    }

    private int append(int itemWords, int target) {
        if (itemCount >= MOST_ITEMS) {
            return NONE;
        }
        int item = itemCount;
        words[item] = itemWords;
        targets[item] = target;
        itemCount++;
        laidOut = false;
        return item;
    }

    private boolean isLaid(int item) {
        return laidOut && isItem(item);
    }

    private boolean isItem(int number) {
        return number >= 0 && number < itemCount;
    }

    private boolean isMark(int number) {
        return number >= 0 && number < markCount;
    }

    private boolean isBranch(int item) {
        return targets[item] != NONE;
    }

    private int firstMarkless() {
        for (int item = 0; item < itemCount; item++) {
            if (isBranch(item) && !isMark(targets[item])) {
                return item;
            }
        }
        return NONE;
    }

    private void shortenAll() {
        for (int item = 0; item < itemCount; item++) {
            if (isBranch(item)) {
                words[item] = SHORT_WORDS;
            }
        }
        longCount = 0;
    }

    private int setPlaces() {
        int total = 0;
        for (int item = 0; item < itemCount; item++) {
            places[item] = total;
            total += words[item];
        }
        return total;
    }

    // A longer branch never brings another nearer to its mark: what doesn't reach now will not
    // reach later either, so none is lengthened here that could have stayed short.
    private int lengthenUnreaching() {
        int lengthened = 0;
        for (int item = 0; item < itemCount; item++) {
            if (isBranch(item) && words[item] == SHORT_WORDS && !reachesShort(item)) {
                words[item] = LONG_WORDS;
                lengthened++;
            }
        }
        return lengthened;
    }

    // lay() goes on only if every branch's mark is there; it is looked at once more because the
    // numbers are used as indexes.
    private boolean reachesShort(int branchItem) {
        int mark = targets[branchItem];
        if (!isMark(mark) || !isItem(markItems[mark])) {
            return false;
        }
        int way = places[markItems[mark]] - places[branchItem];
        return way >= -reachNow && way <= reachNow;
    }
}
