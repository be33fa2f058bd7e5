/** about() tells of the whole queue. */
public final class Promise12AboutTest {
    public static void main(String[] args) {
        Check c = new Check();
        SpillQueue q = new SpillQueue();
        c.aboutDue("no disk", q, 0, 0, 0, 0, 0, 0, 1);
        q.format(30, 19, 4, 2);
        c.aboutDue("formatted", q, 0, 0, 28, 1, 4, 1, 0);
        Make.insertAll(c, q, 9, 8, 7, 6, 5);
        c.aboutDue("a run and a key", q, 1, 1, 27, 1, 4, 2, 0);
        c.due("sync()", q.sync(), 0);
        // [5] went to block 3, and both runs to block 4; the superblock is the fifth write.
        c.aboutDue("synced", q, 1, 0, 27, 2, 4, 5, 0);
        c.takesDue("all", q, 5, 6, 7, 8, 9);
        c.aboutDue("the synced block is not free", q, 0, 0, 27, 2, 4, 5, 0);
        Make.insertAll(c, q, 1, 2, 3, 4, 5);
        c.aboutDue("a run and the synced one", q, 1, 1, 26, 2, 4, 6, 0);
        q.cut();
        c.aboutDue("dead", q, 0, 0, 0, 0, 0, 6, 1);
        q.spoil(0, 0, 1);
        c.due("spoil is no write", q.about(5), 6);
        q.spoil(0, 0, 1);
        c.due("recover()", q.recover(), 5);
        c.aboutDue("recovered", q, 1, 0, 27, 2, 4, 6, 0);
        int[] wrong = {-1, 7, Integer.MAX_VALUE, Integer.MIN_VALUE};
        for (int what : wrong) {
            c.badIndex("about(" + what + ")", () -> q.about(what));
        }
        q.cut();
        for (int what : wrong) {
            c.badIndex("about(" + what + "), dead", () -> q.about(what));
        }
        q.format(30, 19, 4, 2);
        c.due("writes begin again", q.about(5), 1);
        c.end();
    }
}
