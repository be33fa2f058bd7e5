/** run() tells of each run. */
public final class Promise11RunTest {
    public static void main(String[] args) {
        Check c = new Check();
        SpillQueue q = Make.formatted(20, 15, 14, 3);
        c.badIndex("run(0, 0) without runs", () -> q.run(0, 0));
        for (int key = 14; key >= 1; key--) {
            Make.insertAll(c, q, key);
        }
        c.badIndex("run(0, 0), keys only in memory", () -> q.run(0, 0));
        Make.insertAll(c, q, 99);
        c.runDue("14 keys need two blocks", q, 0, 2, 0, 14, 0, 2, 1);
        c.takesDue("one", q, 1);
        c.runDue("13 keys in two blocks", q, 0, 2, 1, 13, 0, 2, 2);
        c.due("sync()", q.sync(), 0);
        c.runDue("as before", q, 0, 2, 1, 13, 0, 2, 2);
        c.runDue("the second one", q, 1, 4, 0, 1, 0, 1, 99);
        Make.insertAll(c, q, 50);
        c.due("sync()", q.sync(), 0);
        c.runDue("all three merged", q, 0, 6, 0, 15, 1, 2, 2);

        int[][] wrong = {
            {1, 0}, {-1, 0}, {0, 6}, {0, -1}, {9, 9}, {Integer.MAX_VALUE, 0},
            {Integer.MIN_VALUE, 0}, {0, Integer.MAX_VALUE}, {0, Integer.MIN_VALUE}};
        for (int[] w : wrong) {
            c.badIndex("run(" + w[0] + ", " + w[1] + ")", () -> q.run(w[0], w[1]));
        }
        q.cut();
        c.dead("run(0, 0)", () -> q.run(0, 0));
        c.dead("run(-1, 9)", () -> q.run(-1, 9));

        SpillQueue many = Make.formatted(100, 40, 1, 5);
        Make.insertAll(c, many, 0, 1, 2, 3, 4);
        for (int i = 0; i < 4; i++) {
            c.runDue("four runs", many, i, 2 + i, 0, 1, 0, 1, i);
        }
        c.badIndex("run(4, 0)", () -> many.run(4, 0));
        c.end();
    }
}
