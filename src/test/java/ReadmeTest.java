/** The example of README.md, call by call, with the answers that stand beside its calls. */
public final class ReadmeTest {
    private static final Answers ANSWERS = new Answers();

    public static void main(String[] args) {
        BranchLengths code = new BranchLengths();
        ANSWERS.due("readme: reach(10)", code.reach(10), true);
        int jump = code.branch(0);
        ANSWERS.due("readme: branch(0)", jump, 0);
        ANSWERS.due("readme: stretch(10)", code.stretch(10), 1);
        int end = code.mark();
        ANSWERS.due("readme: mark()", end, 2);
        ANSWERS.due("readme: lay()", code.lay(), 12);
        ANSWERS.due("readme: isLong(jump)", code.isLong(jump), true);
        ANSWERS.due("readme: place(end)", code.place(end), 12);
        ANSWERS.due("readme: longs()", code.longs(), 1);
        ANSWERS.due("readme: branch(7)", code.branch(7), 3);
        ANSWERS.due("readme: longs() again", code.longs(), -1);
        ANSWERS.due("readme: lay() again", code.lay(), -1);
        ANSWERS.due("readme: least()", code.least(), 3);
        ANSWERS.end();
    }
}
