/**
 * For each sentence of the document that names a boundary case, a test of its own: the sentence
 * stands above it, and its label begins with the promise's number or the heading's name.
 */
public final class BoundariesTest {
    private static final int MOST_ITEMS = 2000;
    private static final int[] NO_NUMBERS_OF_ITEMS = {
        -1, -2, -2000, Integer.MIN_VALUE, 2000, 2001, 65536, Integer.MAX_VALUE
    };

    private static final Answers ANSWERS = new Answers();

    public static void main(String[] args) {
        whatItIs();
        terms();
        newObject();
        adding();
        reaching();
        laying();
        asking();
        clearing();
        counting();
        ANSWERS.end();
    }

    private static void whatItIs() {
        lastCallOfManyShortBranches();
        lastCallOfManyLongBranches();
        lastCallOfManyWords();
        laterCallsEnd();
    }

    private static void terms() {
        itemsAreNumberedFromZero();
        mostItemsAreStretches();
        mostItemsAreMarks();
        mostItemsAreBranches();
        shortestStretch();
        longestStretch();
        marksAreNumberedFromZero();
        markMayComeLater();
        markHasNoWords();
        shortBranchHasOneWord();
        longBranchHasTwoWords();
        firstPlaceIsZero();
        placeLeavesOwnWordsOut();
        smallestReach();
        greatestReach();
        forwardEndOfReach();
        backwardEndOfReach();
        wayOfNothing();
        longBranchReachesAll();
        fewestLong();
        noneIsShortThatDoesNotReach();
    }

    private static void newObject() {
        newRowIsEmpty();
        newReach();
        newRowIsNotLaidOut();
    }

    private static void adding() {
        stretchTooSmall();
        stretchTooLarge();
        stretchOnFullRow();
        stretchUndoesLayout();
        markOnFullRow();
        markUndoesLayout();
        branchBelowZero();
        branchToGreatestMark();
        branchOnFullRow();
        branchUndoesLayout();
        refusedItemChangesNothing();
    }

    private static void reaching() {
        reachTooSmall();
        reachTooLarge();
        reachUndoesLayout();
        refusedReachChangesNothing();
    }

    private static void laying() {
        layOfEmptyRow();
        layOfRowWithoutWords();
        layWithoutAnyMark();
        layWithMarkOneTooFew();
        failedLayUndoesLayout();
        layOnceMore();
        leastBeforeAnyLay();
        leastIsTheFirst();
        leastIsOfTheLatestLay();
        leastOfGoodLay();
    }

    private static void asking() {
        placeIfNotLaidOut();
        placeOfNoItem();
        placeOfLastItem();
        isLongIfNotLaidOut();
        isLongOfNoItem();
        isLongOfNoBranch();
        longsIfNotLaidOut();
        longsOfNone();
        longsOfAll();
    }

    private static void clearing() {
        clearOfEmptyRow();
        clearOfFullRow();
        clearUndoesLayout();
        clearTakesMarksAway();
        clearLeavesReach();
        clearLeavesLeast();
    }

    private static void counting() {
        itemsFromNoneToFull();
        itemsWithoutRefusedOnes();
        marksFromNoneToFull();
        marksWithoutOtherItems();
    }

    private static void due(String call, int got, int want) {
        ANSWERS.due(call, got, want);
    }

    private static void due(String call, boolean got, boolean want) {
        ANSWERS.due(call, got, want);
    }

    /** A row of a forward branch (long), two words, its mark and a backward branch (short). */
    private static BranchLengths smallRow() {
        BranchLengths x = new BranchLengths();
        x.reach(2);
        x.branch(0);
        x.stretch(2);
        x.mark();
        x.branch(0);
        return x;
    }

    private static BranchLengths smallRowLaidOut() {
        BranchLengths x = smallRow();
        x.lay();
        return x;
    }

    private static void dueSmallRowLaidOut(String label, BranchLengths x) {
        int[] places = {0, 2, 4, 4};
        for (int item = 0; item < places.length; item++) {
            due(label + ", place(" + item + ")", x.place(item), places[item]);
            due(label + ", isLong(" + item + ")", x.isLong(item), item == 0);
        }
        due(label + ", longs", x.longs(), 1);
        due(label + ", items", x.items(), 4);
        due(label + ", marks", x.marks(), 1);
        due(label + ", least", x.least(), -1);
    }

    private static void dueNotLaidOut(String label, BranchLengths x) {
        due(label + ", longs", x.longs(), -1);
        for (int item = 0; item <= x.items(); item++) {
            due(label + ", place(" + item + ")", x.place(item), -1);
            due(label + ", isLong(" + item + ")", x.isLong(item), false);
        }
    }

    /** More than 512 calls, behind which no answer is promised: only so 2000 items are met. */
    private static BranchLengths fullRow() {
        BranchLengths x = new BranchLengths();
        x.mark();
        for (int item = 1; item < MOST_ITEMS - 1; item++) {
            x.stretch(1);
        }
        x.branch(0);
        return x;
    }

    private static void dueFullRowUnchanged(String label, BranchLengths x) {
        due(label + ", items", x.items(), MOST_ITEMS);
        due(label + ", marks", x.marks(), 1);
        due(label + ", still laid out", x.longs(), 1);
        due(label + ", the last place", x.place(MOST_ITEMS - 1), MOST_ITEMS - 2);
        due(label + ", the last is long", x.isLong(MOST_ITEMS - 1), true);
        due(label + ", the words", x.lay(), MOST_ITEMS);
    }

    /** A branch to a mark that is so many words behind it, laid out. */
    private static BranchLengths forward(int reach, int way) {
        BranchLengths x = new BranchLengths();
        x.reach(reach);
        x.branch(0);
        addWords(x, way - 1);
        x.mark();
        x.lay();
        return x;
    }

    /** A branch to a mark that is so many words before it, laid out. */
    private static BranchLengths backward(int reach, int way) {
        BranchLengths x = new BranchLengths();
        x.reach(reach);
        x.mark();
        addWords(x, way);
        x.branch(0);
        x.lay();
        return x;
    }

    private static void addWords(BranchLengths x, int words) {
        int left = words;
        while (left > 4000) {
            x.stretch(4000);
            left -= 4000;
        }
        x.stretch(left);
    }

    // ---- What it is

    /** "An object is used for at most 512 calls after it has been made" */
    private static void lastCallOfManyShortBranches() {
        BranchLengths x = new BranchLengths();
        due("calls: 1st", x.mark(), 0);
        for (int item = 1; item <= 509; item++) {
            due("calls: branch", x.branch(0), item);
        }
        due("calls: 511th", x.lay(), 509);
        due("calls: 512th", x.place(509), 508);
    }

    /** The same with as many rounds of lengthening as 512 calls can make of this chain. */
    private static void lastCallOfManyLongBranches() {
        int links = 127;
        BranchLengths x = new BranchLengths();
        x.reach(9);
        x.branch(0);
        x.stretch(1);
        for (int link = 1; link < links; link++) {
            x.stretch(5);
            x.branch(link);
            x.stretch(1);
            x.mark();
        }
        x.stretch(8);
        x.mark();
        due("calls: 510th", x.lay(), 1 + (links - 1) * 6 + 8 + 2 * links);
        due("calls: 511th of the chain", x.longs(), links);
        due("calls: 512th of the chain", x.isLong(0), true);
    }

    /** The same with as many words as 512 calls can bring between a branch and its mark. */
    private static void lastCallOfManyWords() {
        BranchLengths x = new BranchLengths();
        x.branch(0);
        for (int item = 1; item <= 508; item++) {
            due("calls: stretch(4000)", x.stretch(4000), item);
        }
        due("calls: 510th of many words", x.mark(), 509);
        due("calls: 511th of many words", x.lay(), 508 * 4000 + 2);
        due("calls: 512th of many words", x.place(509), 508 * 4000 + 2);
    }

    /** "what later calls answer is free": but LANGUAGE.md, 7, has them end and throw nothing. */
    private static void laterCallsEnd() {
        int[] numbers = {0, 1, 4000, 1999, 2000, -1, Integer.MAX_VALUE, Integer.MIN_VALUE};
        BranchLengths x = new BranchLengths();
        for (int round = 0; round < 1200; round++) {
            int number = numbers[round % numbers.length];
            x.mark();
            x.branch(round % 700);
            x.stretch(number);
            x.branch(number);
            x.reach(number);
            x.place(number);
            x.isLong(number);
            if (round % 100 == 0) {
                x.lay();
                x.least();
                x.longs();
            }
        }
        x.clear();
        due("calls: the last of many", x.items(), 0);
    }

    // ---- Terms

    /** "A ROW has ITEMS, numbered from 0" */
    private static void itemsAreNumberedFromZero() {
        due("Terms: the first is a stretch", new BranchLengths().stretch(5), 0);
        due("Terms: the first is a mark", new BranchLengths().mark(), 0);
        due("Terms: the first is a branch", new BranchLengths().branch(5), 0);
    }

    /** "at most 2000: a STRETCH" */
    private static void mostItemsAreStretches() {
        BranchLengths x = new BranchLengths();
        for (int item = 0; item < MOST_ITEMS; item++) {
            due("Terms: stretch among 2000", x.stretch(4000), item);
        }
        due("Terms: stretch 2001", x.stretch(4000), -1);
        due("Terms: words of 2000 stretches", x.lay(), MOST_ITEMS * 4000);
        due("Terms: place of stretch 2000", x.place(MOST_ITEMS - 1), (MOST_ITEMS - 1) * 4000);
    }

    /** "at most 2000: .. a MARK" */
    private static void mostItemsAreMarks() {
        BranchLengths x = new BranchLengths();
        for (int item = 0; item < MOST_ITEMS; item++) {
            due("Terms: mark among 2000", x.mark(), item);
        }
        due("Terms: mark 2001", x.mark(), -1);
        due("Terms: marks of 2000", x.marks(), MOST_ITEMS);
        due("Terms: words of 2000 marks", x.lay(), 0);
    }

    /** "at most 2000: .. or a BRANCH" */
    private static void mostItemsAreBranches() {
        BranchLengths x = new BranchLengths();
        for (int item = 0; item < MOST_ITEMS - 1; item++) {
            due("Terms: branch among 2000", x.branch(0), item);
        }
        due("Terms: the mark of 1999 branches", x.mark(), MOST_ITEMS - 1);
        due("Terms: branch 2001", x.branch(0), -1);
        x.reach(1);
        due("Terms: words of 1999 branches", x.lay(), 2 * (MOST_ITEMS - 1) - 1);
        due("Terms: longs of 1999 branches", x.longs(), MOST_ITEMS - 2);
    }

    /** "a STRETCH of 0 .. words" */
    private static void shortestStretch() {
        BranchLengths x = new BranchLengths();
        due("Terms: stretch(0)", x.stretch(0), 0);
        due("Terms: stretch(1)", x.stretch(1), 1);
        due("Terms: words", x.lay(), 1);
        due("Terms: place behind stretch(0)", x.place(1), 0);
    }

    /** "a STRETCH of .. 4000 words" */
    private static void longestStretch() {
        BranchLengths x = new BranchLengths();
        due("Terms: stretch(4000)", x.stretch(4000), 0);
        due("Terms: stretch(3999)", x.stretch(3999), 1);
        due("Terms: words of both", x.lay(), 7999);
        due("Terms: place behind stretch(4000)", x.place(1), 4000);
    }

    /** "a MARK, numbered among the marks from 0 in order" */
    private static void marksAreNumberedFromZero() {
        BranchLengths x = new BranchLengths();
        x.reach(1);
        x.mark();
        x.stretch(3);
        x.mark();
        x.branch(1);
        x.branch(0);
        due("Terms: words of two branches", x.lay(), 6);
        due("Terms: mark 1 is the near one", x.isLong(3), false);
        due("Terms: mark 0 is the far one", x.isLong(4), true);
    }

    /** "a BRANCH to a mark by its number (it may come later)" */
    private static void markMayComeLater() {
        BranchLengths x = new BranchLengths();
        due("Terms: branch to a later mark", x.branch(1), 0);
        x.mark();
        x.mark();
        due("Terms: lay with the later mark", x.lay(), 1);
        due("Terms: least with the later mark", x.least(), -1);
    }

    /** "a mark none" */
    private static void markHasNoWords() {
        BranchLengths x = new BranchLengths();
        x.mark();
        x.mark();
        x.stretch(6);
        x.mark();
        due("Terms: words beside marks", x.lay(), 6);
        due("Terms: place behind a mark", x.place(1), 0);
        due("Terms: place behind two marks", x.place(2), 0);
    }

    /** "a branch 1 word if it is SHORT" */
    private static void shortBranchHasOneWord() {
        BranchLengths x = new BranchLengths();
        x.mark();
        x.branch(0);
        x.mark();
        due("Terms: words of a short branch", x.lay(), 1);
        due("Terms: place behind a short branch", x.place(2), 1);
    }

    /** "and 2 if it is LONG" */
    private static void longBranchHasTwoWords() {
        BranchLengths x = new BranchLengths();
        x.reach(1);
        x.mark();
        x.stretch(2);
        x.branch(0);
        x.mark();
        due("Terms: words of a long branch", x.lay(), 4);
        due("Terms: place behind a long branch", x.place(3), 4);
    }

    /** "The PLACE of an item is the sum of the words of all items before it": none is there. */
    private static void firstPlaceIsZero() {
        BranchLengths x = new BranchLengths();
        x.stretch(4000);
        x.lay();
        due("Terms: the first place", x.place(0), 0);
    }

    /** The same: its own words and those of the items behind it don't count. */
    private static void placeLeavesOwnWordsOut() {
        BranchLengths x = new BranchLengths();
        x.stretch(4);
        x.stretch(40);
        x.stretch(400);
        due("Terms: all the words", x.lay(), 444);
        due("Terms: place(1)", x.place(1), 4);
        due("Terms: place(2)", x.place(2), 44);
    }

    /** "REACH is a number 1 .." */
    private static void smallestReach() {
        due("Terms: reach(1)", new BranchLengths().reach(1), true);
        due("Terms: reach 1, way 1", forward(1, 1).longs(), 0);
        due("Terms: reach 1, way 2", forward(1, 2).longs(), 1);
        due("Terms: reach 1, way -1", backward(1, 1).longs(), 0);
        due("Terms: reach 1, way -2", backward(1, 2).longs(), 1);
    }

    /** "REACH is a number .. 100000" */
    private static void greatestReach() {
        due("Terms: reach(100000)", new BranchLengths().reach(100000), true);
        due("Terms: reach 100000, way 100000", forward(100000, 100000).longs(), 0);
        due("Terms: reach 100000, way 100001", forward(100000, 100001).longs(), 1);
        due("Terms: reach 100000, way -100000", backward(100000, 100000).longs(), 0);
        due("Terms: reach 100000, way -100001", backward(100000, 100001).longs(), 1);
    }

    /** "if the mark's place less its own is .. to reach" */
    private static void forwardEndOfReach() {
        for (int reach = 2; reach < 5000; reach += 7 + reach / 3) {
            due("Terms: way one less, " + reach, forward(reach, reach - 1).longs(), 0);
            due("Terms: way is reach " + reach, forward(reach, reach).longs(), 0);
            due("Terms: way one more, " + reach, forward(reach, reach + 1).longs(), 1);
        }
    }

    /** "if the mark's place less its own is from - reach .." */
    private static void backwardEndOfReach() {
        for (int reach = 2; reach < 5000; reach += 7 + reach / 3) {
            due("Terms: way back one less, " + reach, backward(reach, reach - 1).longs(), 0);
            due("Terms: way back is reach " + reach, backward(reach, reach).longs(), 0);
            due("Terms: way back one more, " + reach, backward(reach, reach + 1).longs(), 1);
        }
    }

    /** The same, between the ends: the mark's place is the branch's own. */
    private static void wayOfNothing() {
        BranchLengths x = new BranchLengths();
        x.reach(1);
        x.stretch(3);
        x.mark();
        x.stretch(0);
        x.branch(0);
        due("Terms: words with way 0", x.lay(), 4);
        due("Terms: way 0", x.isLong(3), false);
    }

    /** "A long one reaches all." */
    private static void longBranchReachesAll() {
        due("Terms: long, forward", forward(1, 1900000).isLong(0), true);
        BranchLengths x = backward(1, 1900000);
        due("Terms: long, backward", x.isLong(x.items() - 1), true);
        due("Terms: the words with a long one", x.lay(), 1900002);
    }

    /** "so few long branches as it can": each would be long if the other were, so neither is. */
    private static void fewestLong() {
        BranchLengths x = new BranchLengths();
        x.reach(4);
        x.mark();
        x.stretch(1);
        x.branch(1);
        x.stretch(3);
        x.branch(0);
        x.mark();
        due("Terms: one too far either way", x.lay(), 8);
        due("Terms: the forward branch is long", x.isLong(2), true);
        due("Terms: the backward branch is long", x.isLong(4), true);
        x.reach(5);
        due("Terms: both just reach", x.lay(), 6);
        due("Terms: neither is long", x.longs(), 0);
    }

    /** "so that all short ones reach their marks": the last one's growth spreads to the first. */
    private static void noneIsShortThatDoesNotReach() {
        BranchLengths x = new BranchLengths();
        x.reach(3);
        x.branch(0);
        x.stretch(1);
        x.branch(1);
        x.mark();
        x.branch(2);
        x.stretch(1);
        x.mark();
        x.stretch(2);
        x.mark();
        due("Terms: words when all grow", x.lay(), 10);
        due("Terms: the last grows first", x.isLong(4), true);
        due("Terms: then the one before it", x.isLong(2), true);
        due("Terms: then the first", x.isLong(0), true);
    }

    // ---- Promise 1

    /** "An empty row" */
    private static void newRowIsEmpty() {
        BranchLengths x = new BranchLengths();
        due("1: items", x.items(), 0);
        due("1: marks", x.marks(), 0);
        due("1: words", x.lay(), 0);
    }

    /** "reach 1000" */
    private static void newReach() {
        int[] ways = {999, 1000, 1001};
        for (int way : ways) {
            BranchLengths x = new BranchLengths();
            x.branch(0);
            x.stretch(way - 1);
            x.mark();
            x.lay();
            due("1: way " + way, x.isLong(0), way > 1000);
            x = new BranchLengths();
            x.mark();
            x.stretch(way);
            x.branch(0);
            x.lay();
            due("1: way -" + way, x.isLong(2), way > 1000);
        }
    }

    /** "not laid out" */
    private static void newRowIsNotLaidOut() {
        dueNotLaidOut("1: new", new BranchLengths());
    }

    // ---- Promises 2 to 4

    /** "-1 if n is not 0 .." */
    private static void stretchTooSmall() {
        int[] tooSmall = {-1, -2, -4000, -65536, Integer.MIN_VALUE};
        for (int n : tooSmall) {
            BranchLengths x = new BranchLengths();
            due("2: stretch(" + n + ")", x.stretch(n), -1);
            due("2: items after it", x.items(), 0);
            due("2: the next one's number", x.stretch(0), 0);
        }
    }

    /** "-1 if n is not .. 4000" */
    private static void stretchTooLarge() {
        int[] tooLarge = {4001, 4002, 65536, 1 << 30, Integer.MAX_VALUE};
        for (int n : tooLarge) {
            BranchLengths x = new BranchLengths();
            due("2: stretch(" + n + ")", x.stretch(n), -1);
            due("2: items after it", x.items(), 0);
            due("2: the next one's number", x.stretch(4000), 0);
        }
    }

    /** "or there are 2000 items" */
    private static void stretchOnFullRow() {
        BranchLengths x = fullRow();
        due("2: words of a full row", x.lay(), MOST_ITEMS);
        due("2: full, stretch(0)", x.stretch(0), -1);
        due("2: full, stretch(4000)", x.stretch(4000), -1);
        due("2: full, stretch(4001)", x.stretch(4001), -1);
        dueFullRowUnchanged("2: full", x);
    }

    /** "The row is not laid out then, here .." */
    private static void stretchUndoesLayout() {
        BranchLengths x = smallRowLaidOut();
        due("2: stretch(0)", x.stretch(0), 4);
        dueNotLaidOut("2: after stretch(0)", x);
    }

    /** "-1 likewise": there are 2000 items */
    private static void markOnFullRow() {
        BranchLengths x = fullRow();
        due("3: words of a full row", x.lay(), MOST_ITEMS);
        due("3: full, mark()", x.mark(), -1);
        due("3: full, mark() again", x.mark(), -1);
        dueFullRowUnchanged("3: full", x);
    }

    /** ".. as with the next two": mark */
    private static void markUndoesLayout() {
        BranchLengths x = smallRowLaidOut();
        due("3: mark()", x.mark(), 4);
        dueNotLaidOut("3: after mark()", x);
    }

    /** "or if m is below 0" */
    private static void branchBelowZero() {
        int[] below = {-1, -2, -2000, Integer.MIN_VALUE};
        for (int m : below) {
            BranchLengths x = new BranchLengths();
            due("4: branch(" + m + ")", x.branch(m), -1);
            due("4: items after it", x.items(), 0);
            due("4: lay after it", x.lay(), 0);
            due("4: the next one's number", x.branch(0), 0);
        }
    }

    /** "m (0 or more)": a number that no mark can have is taken all the same. */
    private static void branchToGreatestMark() {
        int[] numbers = {0, 1, 1999, 2000, 2001, Integer.MAX_VALUE};
        for (int m : numbers) {
            BranchLengths x = new BranchLengths();
            due("4: branch(" + m + ")", x.branch(m), 0);
            due("4: its mark is not there", x.lay(), -1);
            due("4: it is the first such", x.least(), 0);
        }
    }

    /** "-1 likewise": there are 2000 items */
    private static void branchOnFullRow() {
        BranchLengths x = fullRow();
        due("4: words of a full row", x.lay(), MOST_ITEMS);
        due("4: full, branch(0)", x.branch(0), -1);
        due("4: full, branch(1)", x.branch(1), -1);
        due("4: full, branch(-1)", x.branch(-1), -1);
        dueFullRowUnchanged("4: full", x);
    }

    /** ".. as with the next two": branch */
    private static void branchUndoesLayout() {
        BranchLengths x = smallRowLaidOut();
        due("4: branch(0)", x.branch(0), 4);
        dueNotLaidOut("4: after branch(0)", x);
    }

    /** "The row is not laid out then": once an item is added, and a refused one is not. */
    private static void refusedItemChangesNothing() {
        BranchLengths x = smallRowLaidOut();
        due("2: refused, too small", x.stretch(-1), -1);
        dueSmallRowLaidOut("2: after stretch(-1)", x);
        due("2: refused, too large", x.stretch(4001), -1);
        dueSmallRowLaidOut("2: after stretch(4001)", x);
        due("4: refused, below 0", x.branch(-1), -1);
        dueSmallRowLaidOut("4: after branch(-1)", x);
        due("2: words after refused ones", x.lay(), 5);
    }

    // ---- Promise 5

    /** "false if it is none": below 1 */
    private static void reachTooSmall() {
        int[] tooSmall = {0, -1, -1000, -100000, Integer.MIN_VALUE};
        for (int r : tooSmall) {
            due("5: reach(" + r + ")", new BranchLengths().reach(r), false);
        }
    }

    /** "false if it is none": above 100000 */
    private static void reachTooLarge() {
        int[] tooLarge = {100001, 100002, 1 << 17, Integer.MAX_VALUE};
        for (int r : tooLarge) {
            due("5: reach(" + r + ")", new BranchLengths().reach(r), false);
        }
    }

    /** "true, and the row is not laid out": with the reach that it has, too */
    private static void reachUndoesLayout() {
        int[] reaches = {1, 2, 3, 100000};
        for (int r : reaches) {
            BranchLengths x = smallRowLaidOut();
            due("5: reach(" + r + ")", x.reach(r), true);
            dueNotLaidOut("5: after reach(" + r + ")", x);
            due("5: items after it", x.items(), 4);
            due("5: marks after it", x.marks(), 1);
            due("5: words with reach " + r, x.lay(), r < 3 ? 5 : 4);
        }
    }

    /** "false if it is none": the row and the reach stay as they are */
    private static void refusedReachChangesNothing() {
        int[] none = {0, -1, Integer.MIN_VALUE, 100001, Integer.MAX_VALUE};
        for (int r : none) {
            BranchLengths x = smallRowLaidOut();
            due("5: refused, reach(" + r + ")", x.reach(r), false);
            dueSmallRowLaidOut("5: after reach(" + r + ")", x);
            due("5: words after it", x.lay(), 5);
            dueSmallRowLaidOut("5: laid out after reach(" + r + ")", x);
        }
    }

    // ---- Promises 6 and 7

    /** "how many words it has": none in an empty row, which is laid out then */
    private static void layOfEmptyRow() {
        BranchLengths x = new BranchLengths();
        due("6: words of an empty row", x.lay(), 0);
        due("6: longs of an empty row", x.longs(), 0);
        due("6: place in an empty row", x.place(0), -1);
        due("6: isLong in an empty row", x.isLong(0), false);
    }

    /** The same, of a row whose items have no words. */
    private static void layOfRowWithoutWords() {
        BranchLengths x = new BranchLengths();
        x.stretch(0);
        x.mark();
        x.stretch(0);
        due("6: no words", x.lay(), 0);
        due("6: place of the last", x.place(2), 0);
        due("6: place behind it", x.place(3), -1);
    }

    /** "-1 (not laid out) if a branch's mark is not there": none is */
    private static void layWithoutAnyMark() {
        BranchLengths x = new BranchLengths();
        x.stretch(3);
        x.branch(0);
        due("6: no mark", x.lay(), -1);
        due("7: no mark", x.least(), 1);
        dueNotLaidOut("6: no mark", x);
    }

    /** The same: the branch's number is the last mark's, or one more. */
    private static void layWithMarkOneTooFew() {
        BranchLengths x = new BranchLengths();
        x.mark();
        x.mark();
        x.branch(1);
        due("6: to the last mark", x.lay(), 1);
        due("7: to the last mark", x.least(), -1);
        x.branch(2);
        due("6: to the mark behind the last", x.lay(), -1);
        due("7: to the mark behind the last", x.least(), 3);
        dueNotLaidOut("6: one mark too few", x);
        x.mark();
        due("6: that mark is there", x.lay(), 2);
        due("7: that mark is there", x.least(), -1);
    }

    /** "-1 (not laid out)": though the row was laid out before the branch came */
    private static void failedLayUndoesLayout() {
        BranchLengths x = smallRowLaidOut();
        x.branch(1);
        due("6: failed", x.lay(), -1);
        dueNotLaidOut("6: failed", x);
        due("6: failed again", x.lay(), -1);
        due("12: after failed ones", x.items(), 5);
        due("13: after failed ones", x.marks(), 1);
        x.mark();
        due("6: mended", x.lay(), 6);
        due("10: mended", x.longs(), 1);
    }

    /** "Lays the row out": one that is laid out too, with the same answers */
    private static void layOnceMore() {
        BranchLengths x = smallRow();
        due("6: first", x.lay(), 5);
        due("6: second", x.lay(), 5);
        due("6: third", x.lay(), 5);
        dueSmallRowLaidOut("6: after the third", x);
    }

    /** "at the latest lay() .. -1 if there was none": there was no lay() at all */
    private static void leastBeforeAnyLay() {
        BranchLengths x = new BranchLengths();
        due("7: new", x.least(), -1);
        x.branch(7);
        due("7: before any lay", x.least(), -1);
    }

    /** "The first branch whose mark was not there .. by its number among the items" */
    private static void leastIsTheFirst() {
        BranchLengths x = new BranchLengths();
        x.branch(9);
        x.branch(1);
        x.mark();
        x.branch(8);
        x.lay();
        due("7: item 0", x.least(), 0);
        x.clear();
        x.stretch(1);
        x.mark();
        x.branch(0);
        x.branch(9);
        x.branch(1);
        x.lay();
        due("7: behind items of all kinds", x.least(), 3);
        x.clear();
        x.mark();
        x.branch(0);
        x.branch(1);
        x.lay();
        due("7: the last item", x.least(), 2);
    }

    /** "at the latest lay()": what comes after it changes nothing */
    private static void leastIsOfTheLatestLay() {
        BranchLengths x = new BranchLengths();
        x.stretch(1);
        x.branch(0);
        x.lay();
        x.mark();
        due("7: after the mark came", x.least(), 1);
        x.reach(5);
        due("7: after reach", x.least(), 1);
        x.stretch(0);
        due("7: after stretch", x.least(), 1);
        x.branch(3);
        due("7: after branch", x.least(), 1);
        x.lay();
        due("7: after the next lay", x.least(), 4);
    }

    /** "-1 if there was none" */
    private static void leastOfGoodLay() {
        BranchLengths x = smallRowLaidOut();
        due("7: none", x.least(), -1);
        x.branch(1);
        due("7: none at the latest lay", x.least(), -1);
        x.lay();
        due("7: one", x.least(), 4);
        x.mark();
        x.lay();
        due("7: none again", x.least(), -1);
    }

    // ---- Promises 8 to 10

    /** "-1 if it is not laid out" */
    private static void placeIfNotLaidOut() {
        BranchLengths x = smallRow();
        for (int item = 0; item < 4; item++) {
            due("8: not laid out, place(" + item + ")", x.place(item), -1);
        }
    }

    /** "or there is none such" */
    private static void placeOfNoItem() {
        BranchLengths x = smallRowLaidOut();
        due("8: place(4)", x.place(4), -1);
        for (int item : NO_NUMBERS_OF_ITEMS) {
            due("8: place(" + item + ")", x.place(item), -1);
        }
    }

    /** The same at the other side of the end, in rows of one item and of all. */
    private static void placeOfLastItem() {
        BranchLengths x = new BranchLengths();
        x.stretch(4000);
        x.lay();
        due("8: the only one", x.place(0), 0);
        due("8: behind the only one", x.place(1), -1);
        x = fullRow();
        x.lay();
        due("8: the last of 2000", x.place(1999), 1998);
        due("8: behind 2000", x.place(2000), -1);
    }

    /** "false if it is not laid out" */
    private static void isLongIfNotLaidOut() {
        BranchLengths x = smallRow();
        due("9: not laid out yet", x.isLong(0), false);
        x.lay();
        due("9: laid out", x.isLong(0), true);
        x.stretch(0);
        due("9: not laid out any more", x.isLong(0), false);
    }

    /** "Whether an item is a long branch": there is no such item */
    private static void isLongOfNoItem() {
        BranchLengths x = smallRowLaidOut();
        due("9: isLong(4)", x.isLong(4), false);
        for (int item : NO_NUMBERS_OF_ITEMS) {
            due("9: isLong(" + item + ")", x.isLong(item), false);
        }
    }

    /** The same: a stretch of two words is none, nor is a mark or a short branch. */
    private static void isLongOfNoBranch() {
        BranchLengths x = smallRowLaidOut();
        due("9: a stretch of 2", x.isLong(1), false);
        due("9: a mark", x.isLong(2), false);
        due("9: a short branch", x.isLong(3), false);
    }

    /** "-1 if it is not laid out" */
    private static void longsIfNotLaidOut() {
        BranchLengths x = smallRow();
        due("10: not laid out yet", x.longs(), -1);
        x.lay();
        due("10: laid out", x.longs(), 1);
        x.stretch(0);
        due("10: not laid out any more", x.longs(), -1);
    }

    /** "How many long branches there are": none */
    private static void longsOfNone() {
        BranchLengths x = new BranchLengths();
        x.stretch(2);
        x.mark();
        x.lay();
        due("10: no branches", x.longs(), 0);
        x.branch(0);
        x.lay();
        due("10: no long branches", x.longs(), 0);
    }

    /** The same: all of them, and none again once they all reach. */
    private static void longsOfAll() {
        BranchLengths x = new BranchLengths();
        x.reach(1);
        x.mark();
        x.stretch(2);
        for (int i = 0; i < 20; i++) {
            x.branch(0);
        }
        due("10: words of all long", x.lay(), 42);
        due("10: all long", x.longs(), 20);
        x.reach(21);
        due("10: words of all short", x.lay(), 22);
        due("10: all short", x.longs(), 0);
    }

    // ---- Promise 11

    /** "An empty row again": it was empty before, too */
    private static void clearOfEmptyRow() {
        BranchLengths x = new BranchLengths();
        x.clear();
        due("11: items", x.items(), 0);
        dueNotLaidOut("11: cleared", x);
        due("11: words", x.lay(), 0);
        due("11: laid out", x.longs(), 0);
        x.clear();
        dueNotLaidOut("11: cleared again", x);
    }

    /** "An empty row again": it was full, and can be filled anew */
    private static void clearOfFullRow() {
        BranchLengths x = fullRow();
        due("11: full", x.stretch(0), -1);
        x.clear();
        due("11: items of a full row", x.items(), 0);
        due("11: marks of a full row", x.marks(), 0);
        for (int item = 0; item < MOST_ITEMS; item++) {
            due("11: filled anew", x.mark(), item);
        }
        due("11: full anew", x.mark(), -1);
        due("11: marks anew", x.marks(), MOST_ITEMS);
    }

    /** "An empty row again": as in promise 1, not laid out */
    private static void clearUndoesLayout() {
        BranchLengths x = smallRowLaidOut();
        x.clear();
        due("11: longs", x.longs(), -1);
        due("11: place(0)", x.place(0), -1);
        due("11: isLong(0)", x.isLong(0), false);
        x.lay();
        due("11: longs of the empty row", x.longs(), 0);
        due("11: place(0) of the empty row", x.place(0), -1);
        due("11: isLong(0) of the empty row", x.isLong(0), false);
    }

    /** "An empty row again": no mark is there, and their numbers begin at 0 */
    private static void clearTakesMarksAway() {
        BranchLengths x = smallRowLaidOut();
        x.clear();
        due("11: the first item", x.branch(0), 0);
        due("11: the old mark is not there", x.lay(), -1);
        due("11: the old mark's branch", x.least(), 0);
        due("11: the new mark", x.mark(), 1);
        due("11: the new mark is there", x.lay(), 1);
        due("11: the new mark is mark 0", x.place(1), 1);
    }

    /** "the reach stays" */
    private static void clearLeavesReach() {
        int[] reaches = {1, 500, 1000, 3000};
        for (int reach : reaches) {
            BranchLengths x = new BranchLengths();
            x.reach(reach);
            x.clear();
            x.mark();
            x.stretch(reach);
            x.branch(0);
            x.branch(0);
            due("11: words with reach " + reach, x.lay(), reach + 3);
            due("11: way is reach " + reach, x.isLong(2), false);
            due("11: way one more, " + reach, x.isLong(3), true);
        }
    }

    /** Promise 7's "at the latest lay()": clear() is none */
    private static void clearLeavesLeast() {
        BranchLengths x = new BranchLengths();
        x.mark();
        x.branch(1);
        x.lay();
        x.clear();
        due("7: after clear", x.least(), 1);
        x.lay();
        due("7: after the empty row's lay", x.least(), -1);
    }

    // ---- Promises 12 and 13

    /** "How many items there are": from none to 2000 */
    private static void itemsFromNoneToFull() {
        BranchLengths x = new BranchLengths();
        for (int count = 0; count < MOST_ITEMS; count++) {
            due("12: items", x.items(), count);
            addOfAnyKind(x, count);
        }
        due("12: full", x.items(), MOST_ITEMS);
        for (int kind = 0; kind < 3; kind++) {
            addOfAnyKind(x, kind);
            due("12: not more than full", x.items(), MOST_ITEMS);
        }
    }

    private static void addOfAnyKind(BranchLengths x, int number) {
        if (number % 3 == 0) {
            x.stretch(number % 2);
        } else if (number % 3 == 1) {
            x.mark();
        } else {
            x.branch(number);
        }
    }

    /** The same: what was refused is not there */
    private static void itemsWithoutRefusedOnes() {
        BranchLengths x = new BranchLengths();
        x.stretch(-1);
        x.stretch(4001);
        x.branch(-1);
        x.reach(0);
        due("12: refused, empty row", x.items(), 0);
        x.mark();
        x.stretch(-1);
        x.stretch(4001);
        x.branch(-1);
        due("12: refused, one item", x.items(), 1);
    }

    /** "How many marks there are": from none to 2000 */
    private static void marksFromNoneToFull() {
        BranchLengths x = new BranchLengths();
        for (int count = 0; count < MOST_ITEMS; count++) {
            due("13: marks", x.marks(), count);
            x.mark();
        }
        due("13: full", x.marks(), MOST_ITEMS);
        x.mark();
        due("13: not more than full", x.marks(), MOST_ITEMS);
    }

    /** The same: no other item is one, nor is the mark that a branch names */
    private static void marksWithoutOtherItems() {
        BranchLengths x = new BranchLengths();
        x.stretch(0);
        due("13: a stretch", x.marks(), 0);
        x.branch(5);
        due("13: a branch", x.marks(), 0);
        x.lay();
        due("13: a failed lay", x.marks(), 0);
        x.mark();
        due("13: a mark", x.marks(), 1);
    }
}
