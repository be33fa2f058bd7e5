/** min() tells the least key and leaves it. */
public final class Promise04MinTest {
    public static void main(String[] args) {
        Check c = new Check();
        SpillQueue q = Make.formatted(12, 11, 2, 2);
        c.due("no key", q.min(), -1);
        Make.insertAll(c, q, Integer.MAX_VALUE);
        c.due("one key", q.min(), Integer.MAX_VALUE);
        Make.insertAll(c, q, 7);
        c.due("in memory", q.min(), 7);
        Make.insertAll(c, q, 9);
        c.due("in a run", q.min(), 7);
        c.due("it stays", q.min(), 7);
        c.due("size()", q.size(), 3);
        Make.insertAll(c, q, 3);
        c.due("in memory again", q.min(), 3);
        Make.insertAll(c, q, 5, 0);
        c.due("0 is a key", q.min(), 0);
        c.due("about(5)", q.about(5), 4);
        c.takesDue("all", q, 0, 3, 5);
        c.due("in the merged run", q.min(), 7);
        c.takesDue("all", q, 7, 9, Integer.MAX_VALUE);
        c.due("no key again", q.min(), -1);
        q.cut();
        c.dead("min()", () -> q.min());
        c.end();
    }
}
