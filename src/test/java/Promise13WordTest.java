/** word() reads the disk, dead or not. */
public final class Promise13WordTest {
    public static void main(String[] args) {
        Check c = new Check();
        SpillQueue none = new SpillQueue();
        c.badIndex("word(0, 0) without a disk", () -> none.word(0, 0));
        c.badIndex("word(-1, -1) without a disk", () -> none.word(-1, -1));

        SpillQueue q = Make.formatted(7, 13, 2, 2);
        Make.insertAll(c, q, Integer.MAX_VALUE, Integer.MAX_VALUE - 1);
        c.due("sync()", q.sync(), 0);
        int sum = 7 + (Integer.MAX_VALUE - 1) * 5 + Integer.MAX_VALUE * 7;
        int[] due = {sum, 0, Integer.MAX_VALUE - 1, Integer.MAX_VALUE, 0, 0, 0, 0, 0, 0, 0, 0, 0};
        c.blockDue("a sum that wraps around", q, 2, due);
        c.due("the last word", q.word(6, 12), 0);
        int[][] wrong = {
            {7, 0}, {-1, 0}, {0, 13}, {0, -1}, {6, 13}, {7, 12}, {1, -13}, {-1, 13},
            {Integer.MAX_VALUE, 0}, {Integer.MIN_VALUE, 0}, {0, Integer.MAX_VALUE},
            {0, Integer.MIN_VALUE}, {Integer.MAX_VALUE, Integer.MAX_VALUE}, {330382100, 0}};
        for (int[] w : wrong) {
            c.badIndex("word(" + w[0] + ", " + w[1] + ")", () -> q.word(w[0], w[1]));
        }
        q.cut();
        c.blockDue("dead", q, 2, due);
        for (int[] w : wrong) {
            c.badIndex("word(" + w[0] + ", " + w[1] + "), dead", () -> q.word(w[0], w[1]));
        }
        c.due("no write", q.about(5), 3);
        c.end();
    }
}
