/** format() makes a new disk with an empty, synced queue. */
public final class Promise02FormatTest {
    private static final Check C = new Check();

    public static void main(String[] args) {
        aNewDisk();
        theLimits();
        everyCornerIsTaken();
        oneStepBeyondIsRefused();
        aWrongCallChangesNothing();
        anotherFormatForgetsAll();
        C.end();
    }

    private static void aNewDisk() {
        SpillQueue q = Make.formatted(6, 12, 3, 2);
        C.aboutDue("formatted", q, 0, 0, 4, 1, 2, 1, 0);
        C.due("size()", q.size(), 0);
        for (int block = 0; block < 6; block++) {
            int one = block == 1 ? 1 : 0;
            C.blockDue("formatted", q, block, 10 * one, one, 0, 0, 0, 0, 0, 0, 0, 0, 0, 0);
        }
        C.due("recover()", q.recover(), 0);
        C.due("epoch", q.about(3), 1);
    }

    private static void theLimits() {
        SpillQueue q = new SpillQueue();
        int[][] wrong = {
            {3, 11, 1, 2}, {201, 11, 1, 2}, {4, 10, 1, 2}, {4, 41, 1, 2}, {4, 11, 0, 2},
            {4, 11, 101, 2}, {4, 11, 1, 1}, {4, 11, 1, 6}, {-4, 11, 1, 2}, {4, -11, 1, 2},
            {4, 11, -1, 2}, {4, 11, 1, -2}, {Integer.MAX_VALUE, 40, 100, 5},
            {Integer.MIN_VALUE, 40, 100, 5}, {200, Integer.MAX_VALUE, 100, 5},
            {200, 40, Integer.MAX_VALUE, 5}, {200, 40, 100, Integer.MIN_VALUE}, {0, 0, 0, 0}};
        for (int[] w : wrong) {
            C.badArgument("format " + java.util.Arrays.toString(w),
                    () -> q.format(w[0], w[1], w[2], w[3]));
        }
        C.aboutDue("nothing formatted", q, 0, 0, 0, 0, 0, 0, 1);
        q.format(4, 11, 1, 2);
        C.aboutDue("the least disk", q, 0, 0, 2, 1, 2, 1, 0);
        q.format(200, 40, 100, 5);
        C.aboutDue("the greatest disk", q, 0, 0, 198, 1, 9, 1, 0);
        C.due("its last word", q.word(199, 39), 0);
        int[] words = {11, 14, 15, 18, 19, 22, 23, 38, 39};
        int[] most = {2, 2, 3, 3, 4, 4, 5, 8, 9};
        for (int i = 0; i < words.length; i++) {
            q.format(4, words[i], 1, 2);
            C.due("MOST of " + words[i] + " words", q.about(4), most[i]);
        }
    }

    /** "blocks .. 4 .. 200, words .. 11 .. 40, mem .. 1 .. 100, .. fan .. 2 .. 5" */
    private static final int[][] LIMITS = {{4, 200}, {11, 40}, {1, 100}, {2, 5}};

    private static int[] corner(int number) {
        int[] sizes = new int[4];
        for (int i = 0; i < 4; i++) {
            sizes[i] = LIMITS[i][number >> i & 1];
        }
        return sizes;
    }

    private static void everyCornerIsTaken() {
        SpillQueue q = new SpillQueue();
        for (int number = 0; number < 16; number++) {
            int[] s = corner(number);
            String when = "format " + java.util.Arrays.toString(s);
            q.format(s[0], s[1], s[2], s[3]);
            C.aboutDue(when, q, 0, 0, s[0] - 2, 1, (s[1] - 3) / 4, 1, 0);
            C.due(when + ": the last word", q.word(s[0] - 1, s[1] - 1), 0);
            C.badIndex(when + ": a block more", () -> q.word(s[0], 0));
            C.badIndex(when + ": a word more", () -> q.word(0, s[1]));
        }
    }

    /** All others are at a limit, the least or the greatest. */
    private static void oneStepBeyondIsRefused() {
        for (int number = 0; number < 16; number++) {
            SpillQueue q = Make.formatted(5, 12, 7, 3);
            Make.insertAll(C, q, 8, 6);
            for (int i = 0; i < 4; i++) {
                int[] s = corner(number);
                s[i] += s[i] == LIMITS[i][0] ? -1 : 1;
                C.badArgument("format " + java.util.Arrays.toString(s),
                        () -> q.format(s[0], s[1], s[2], s[3]));
                C.aboutDue("as before", q, 0, 2, 3, 1, 2, 1, 0);
            }
            C.takesDue("as before", q, 6, 8, -1);
        }
    }

    private static void aWrongCallChangesNothing() {
        SpillQueue q = Make.formatted(10, 11, 2, 2);
        Make.insertAll(C, q, 5, 4, 3);
        q.cutAt(1);
        C.badArgument("format(10, 11, 2, 9)", () -> q.format(10, 11, 2, 9));
        C.aboutDue("as before", q, 1, 1, 7, 1, 2, 2, 0);
        C.due("size()", q.size(), 3);
        C.due("the cut is still to come", q.sync(), -9);
        C.badArgument("format(10, 99, 2, 2)", () -> q.format(10, 99, 2, 2));
        C.due("still dead", q.about(6), 1);
        C.due("the disk is still there", q.word(2, 2), 4);
    }

    private static void anotherFormatForgetsAll() {
        SpillQueue q = Make.formatted(10, 11, 2, 2);
        Make.insertAll(C, q, 5, 4, 3);
        C.due("sync()", q.sync(), 0);
        q.cutAt(1);
        q.format(8, 13, 1, 3);
        C.aboutDue("formatted again", q, 0, 0, 6, 1, 2, 1, 0);
        C.due("min()", q.min(), -1);
        for (int block = 0; block < 8; block++) {
            int one = block == 1 ? 1 : 0;
            C.blockDue("again", q, block, 10 * one, one, 0, 0, 0, 0, 0, 0, 0, 0, 0, 0, 0);
        }
        C.due("no cut is to come", q.sync(), 0);
        Make.insertAll(C, q, 6);
        C.due("mem is new", q.about(0), 0);
        Make.insertAll(C, q, 7);
        C.due("mem is new", q.about(0), 1);
        q.cut();
        q.format(8, 13, 1, 3);
        C.due("a dead one lives again", q.about(6), 0);
        C.due("size()", q.size(), 0);
    }
}
