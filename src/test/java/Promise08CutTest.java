/** cut(): power is off, and only the disk, the writes and the sizes are left. */
public final class Promise08CutTest {
    public static void main(String[] args) {
        Check c = new Check();
        SpillQueue none = new SpillQueue();
        c.dead("cut() without a disk", () -> none.cut());

        SpillQueue q = Make.formatted(8, 11, 2, 2);
        Make.insertAll(c, q, 3, 2, 1);
        c.aboutDue("live", q, 1, 1, 5, 1, 2, 2, 0);
        q.cut();
        c.aboutDue("dead", q, 0, 0, 0, 0, 0, 2, 1);
        c.due("size()", q.size(), 0);
        c.dead("min()", () -> q.min());
        c.dead("run(0, 0)", () -> q.run(0, 0));
        c.blockDue("the disk is left", q, 2, 7 + 2 * 5 + 3 * 7, 0, 2, 3, 0);
        q.cut();
        c.aboutDue("cut() of a dead one", q, 0, 0, 0, 0, 0, 2, 1);
        c.due("nothing was synced", q.recover(), 0);
        c.aboutDue("recovered", q, 0, 0, 6, 1, 2, 2, 0);
        Make.insertAll(c, q, 9, 8);
        c.due("mem is left", q.about(0), 0);
        Make.insertAll(c, q, 7, 6, 5);
        c.due("fan is left", q.about(0), 1);
        c.runDue("fan is left", q, 0, 4, 0, 4, 1, 1, 6);
        c.end();
    }
}
