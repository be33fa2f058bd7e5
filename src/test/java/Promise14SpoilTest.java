/** spoil() turns bits over on the disk of a dead queue. */
public final class Promise14SpoilTest {
    public static void main(String[] args) {
        Check c = new Check();
        SpillQueue none = new SpillQueue();
        c.badIndex("spoil(0, 0, 1) without a disk", () -> none.spoil(0, 0, 1));

        SpillQueue q = Make.formatted(7, 13, 2, 2);
        c.dead("spoil(0, 0, 1) while live", () -> q.spoil(0, 0, 1));
        c.dead("spoil(-1, 0, 1) while live", () -> q.spoil(-1, 0, 1));
        c.due("nothing is spoiled", q.word(0, 0), 0);
        q.cut();
        q.spoil(6, 12, 12);
        c.due("12", q.word(6, 12), 12);
        q.spoil(6, 12, 10);
        c.due("12 and 10", q.word(6, 12), 6);
        q.spoil(6, 12, -1);
        c.due("all bits", q.word(6, 12), ~6);
        q.spoil(6, 12, 0);
        c.due("no bit", q.word(6, 12), ~6);
        c.due("the word before it", q.word(6, 11), 0);
        q.spoil(0, 0, Integer.MIN_VALUE);
        c.due("the first word", q.word(0, 0), Integer.MIN_VALUE);
        int[][] wrong = {
            {7, 0}, {-1, 0}, {0, 13}, {0, -1}, {7, 13}, {Integer.MAX_VALUE, 0},
            {Integer.MIN_VALUE, 0}, {0, Integer.MAX_VALUE}, {0, Integer.MIN_VALUE}};
        for (int[] w : wrong) {
            c.badIndex("spoil(" + w[0] + ", " + w[1] + ", 1)", () -> q.spoil(w[0], w[1], 1));
        }
        c.due("no write", q.about(5), 1);
        c.due("block 0 was never good, block 6 is free", q.recover(), 0);
        c.due("what was spoiled stays", q.word(6, 12), ~6);
        c.dead("spoil(6, 12, 1) while live", () -> q.spoil(6, 12, 1));
        Make.insertAll(c, q, 1, 2, 3);
        c.due("block 0 is still spoiled", q.word(0, 0), Integer.MIN_VALUE);
        c.due("sync()", q.sync(), 0);
        c.due("block 0 is written", q.word(0, 1), 2);
        c.end();
    }
}
