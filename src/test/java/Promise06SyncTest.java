/** sync() brings all keys to the disk and writes the superblock of the next epoch. */
public final class Promise06SyncTest {
    private static final Check C = new Check();

    public static void main(String[] args) {
        superblocksTakeTurns();
        aRunThatHasBegun();
        noRoom();
        powerIsCutAtEachWrite();
        theEpochWrapsAround();
        C.end();
    }

    private static void superblocksTakeTurns() {
        SpillQueue q = Make.formatted(12, 11, 3, 5);
        Make.insertAll(C, q, 6, 4);
        C.due("sync()", q.sync(), 0);
        C.aboutDue("synced", q, 1, 0, 9, 2, 2, 3, 0);
        int sum = 7 + 2 * 3 + 1 * 5 + 2 * 7 + 2 * 11;
        C.blockDue("epoch 2", q, 0, sum, 2, 1, 2, 0, 2, 0, 0, 0, 0, 0);
        C.blockDue("epoch 1 is still there", q, 1, 10, 1, 0, 0, 0, 0, 0, 0, 0, 0, 0);
        C.due("sync() without keys in memory", q.sync(), 0);
        C.aboutDue("one write more", q, 1, 0, 9, 3, 2, 4, 0);
        C.blockDue("epoch 3", q, 1, sum + 3, 3, 1, 2, 0, 2, 0, 0, 0, 0, 0);
        C.takesDue("all", q, 4, 6);
        C.due("still synced", q.about(2), 9);
        C.due("sync()", q.sync(), 0);
        C.due("no more", q.about(2), 10);
        C.blockDue("zeros behind no run", q, 0, 7 + 4 * 3, 4, 0, 0, 0, 0, 0, 0, 0, 0, 0);
        q.cut();
        C.dead("sync()", () -> q.sync());
    }

    private static void aRunThatHasBegun() {
        SpillQueue q = Make.formatted(12, 11, 12, 5);
        Make.insertAll(C, q, 1, 2, 3, 4, 5, 6, 7, 8, 9, 10, 11, 12);
        C.due("sync()", q.sync(), 0);
        C.takesDue("ten", q, 1, 2, 3, 4, 5, 6, 7, 8, 9, 10);
        Make.insertAll(C, q, 50);
        C.due("sync()", q.sync(), 0);
        int sum = 7 + 3 * 3 + 2 * 5 + 3 * 7 + 1 * 9 + 2 * 11 + 4 * 15 + 1 * 19;
        C.blockDue("two runs", q, 1, sum, 3, 2, 3, 1, 2, 0, 4, 0, 1, 0);
        C.due("the first block is free", q.about(2), 8);
        C.due("recover()", q.recover(), 3);
        C.takesDue("all", q, 11, 12, 50, -1);
    }

    private static void noRoom() {
        SpillQueue q = Make.formatted(4, 11, 2, 5);
        Make.insertAll(C, q, 1);
        C.due("sync()", q.sync(), 0);
        Make.insertAll(C, q, 2);
        C.due("sync()", q.sync(), 0);
        Make.insertAll(C, q, 3);
        C.due("no spill", q.sync(), -2);
        C.aboutDue("nothing is synced", q, 2, 1, 0, 3, 2, 5, 0);
        C.takesDue("the run goes, its block stays synced", q, 1);
        C.due("no spill yet", q.sync(), -2);
        C.takesDue("all", q, 2, 3);
        C.due("none is needed", q.sync(), 0);
        C.aboutDue("empty", q, 0, 0, 2, 4, 2, 6, 0);
    }

    private static void powerIsCutAtEachWrite() {
        // The sync writes a run of one block, a merged one of one block, and the superblock.
        for (int n = 1; n <= 4; n++) {
            SpillQueue q = Make.formatted(12, 15, 1, 2);
            Make.insertAll(C, q, 7);
            C.due("first sync()", q.sync(), 0);
            Make.insertAll(C, q, 5);
            q.cutAt(n);
            C.due("sync(), cut at " + n, q.sync(), n <= 3 ? -9 : 0);
            C.due("dead, cut at " + n, q.about(6), n <= 3 ? 1 : 0);
            C.due("writes, cut at " + n, q.about(5), 3 + Math.min(n - 1, 3));
            C.due("epoch of block 1, cut at " + n, q.word(1, 1), n <= 3 ? 1 : 3);
            C.due("recover(), cut at " + n, q.recover(), n <= 3 ? 1 : 2);
            C.due("epoch, cut at " + n, q.about(3), n <= 3 ? 2 : 3);
            C.due("min(), cut at " + n, q.min(), n <= 3 ? 7 : 5);
        }
    }

    private static void theEpochWrapsAround() {
        SpillQueue q = Make.formatted(8, 11, 1, 2);
        q.cut();
        Make.forge(q, 11, 1, 1, Integer.MAX_VALUE);
        C.due("recover()", q.recover(), 0);
        C.due("the greatest epoch", q.about(3), Integer.MAX_VALUE);
        Make.insertAll(C, q, 3);
        C.due("sync()", q.sync(), 0);
        C.due("the least epoch", q.about(3), Integer.MIN_VALUE);
        C.due("in block 0", q.word(0, 1), Integer.MIN_VALUE);
        C.due("recover() takes the good one", q.recover(), 0);
        C.due("its epoch", q.about(3), Integer.MAX_VALUE);
        C.due("sync()", q.sync(), 0);
        C.due("sync()", q.sync(), 0);
        C.due("odd epochs go to block 1", q.word(1, 1), Integer.MIN_VALUE + 1);
        C.due("recover() while live, none is good", q.recover(), -3);
        C.due("dead", q.about(6), 1);
    }
}
