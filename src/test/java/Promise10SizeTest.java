/** size() counts the keys in memory and in all runs. */
public final class Promise10SizeTest {
    public static void main(String[] args) {
        Check c = new Check();
        SpillQueue q = new SpillQueue();
        c.due("no disk", q.size(), 0);
        q.format(20, 15, 3, 3);
        c.due("formatted", q.size(), 0);
        for (int n = 1; n <= 40; n++) {
            Make.insertAll(c, q, n * 17 % 41);
            c.due("after insert number " + n, q.size(), n);
        }
        c.due("sync()", q.sync(), 0);
        c.due("synced", q.size(), 40);
        for (int n = 39; n >= 25; n--) {
            q.take();
            c.due("taken down to " + n, q.size(), n);
        }
        q.cut();
        c.due("dead", q.size(), 0);
        c.due("recover()", q.recover(), 40);
        c.due("recovered", q.size(), 40);
        q.cutAt(1);
        c.due("sync()", q.sync(), -9);
        c.due("dead", q.size(), 0);
        c.end();
    }
}
