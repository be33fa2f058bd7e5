/** take() takes from memory first, then from the first run; blocks and runs go when they are empty. */
public final class Promise05TakeTest {
    private static final Check C = new Check();

    public static void main(String[] args) {
        fromMemoryBeforeRuns();
        fromTheFirstRunThatHasIt();
        theLevelGoesWithItsRun();
        blocksGo();
        syncedBlocksAreKept();
        withoutAKeyItChangesNothing();
        itWritesNothing();
        C.end();
    }

    private static void fromMemoryBeforeRuns() {
        SpillQueue q = Make.formatted(12, 11, 2, 5);
        C.due("no key", q.take(), -1);
        Make.insertAll(C, q, 4, 6, 4);
        C.aboutDue("4 in both", q, 1, 1, 9, 1, 2, 2, 0);
        C.takesDue("from memory", q, 4);
        C.aboutDue("memory is empty", q, 1, 0);
        C.runDue("the run is whole", q, 0, 2, 0, 2, 0, 1, 4);
        C.takesDue("from the run", q, 4);
        C.runDue("it has begun", q, 0, 2, 1, 1, 0, 1, 6);
        C.due("size()", q.size(), 1);
        C.takesDue("the last one", q, 6, -1, -1);
        C.aboutDue("all gone", q, 0, 0, 10, 1, 2, 2, 0);
        q.cut();
        C.dead("take()", () -> q.take());
    }

    private static void fromTheFirstRunThatHasIt() {
        SpillQueue q = Make.formatted(12, 23, 2, 5);
        Make.insertAll(C, q, 5, 9, 5, 8, 5, 7, 100);
        C.due("runs", q.about(0), 3);
        C.takesDue("from run 0", q, 5);
        C.runDue("from run 0", q, 0, 2, 1, 1, 0, 1, 9);
        C.runDue("from run 0", q, 1, 3, 0, 2, 0, 1, 5);
        C.takesDue("from run 1", q, 5);
        C.runDue("from run 1", q, 1, 3, 1, 1, 0, 1, 8);
        C.runDue("from run 1", q, 2, 4, 0, 2, 0, 1, 5);
        C.takesDue("from run 2, to its end", q, 5, 7);
        C.aboutDue("run 2 is gone", q, 2, 1, 8);
        C.takesDue("run 1 goes", q, 8);
        C.runDue("run 0 is left", q, 0, 2, 1, 1, 0, 1, 9);
        C.badIndex("run(1, 0)", () -> q.run(1, 0));

        SpillQueue other = Make.formatted(12, 23, 1, 5);
        Make.insertAll(C, other, 1, 2, 3, 4);
        C.takesDue("run 0 goes", other, 1);
        C.runDue("the next is run 0", other, 0, 3, 0, 1, 0, 1, 2);
        C.runDue("and the one behind it run 1", other, 1, 4, 0, 1, 0, 1, 3);
    }

    private static void theLevelGoesWithItsRun() {
        SpillQueue q = Make.formatted(12, 15, 1, 3);
        Make.insertAll(C, q, 1);
        C.due("sync()", q.sync(), 0);
        Make.insertAll(C, q, 2);
        C.due("sync()", q.sync(), 0);
        q.cut();
        Make.forge(q, 15, 1, 10, 4);
        C.due("recover()", q.recover(), 2);
        C.takesDue("run 0 goes", q, 1);
        C.runDue("run 1 is run 0 now", q, 0, 3, 0, 1, 4, 1, 2);
    }

    private static SpillQueue twentyKeysInThreeBlocks() {
        SpillQueue q = Make.formatted(12, 11, 20, 2);
        for (int key = 20; key >= 1; key--) {
            Make.insertAll(C, q, key);
        }
        Make.insertAll(C, q, 1000);
        C.runDue("three blocks", q, 0, 2, 0, 20, 0, 3, 1);
        C.due("free", q.about(2), 7);
        return q;
    }

    private static void blocksGo() {
        SpillQueue q = twentyKeysInThreeBlocks();
        C.takesDue("eight", q, 1, 2, 3, 4, 5, 6, 7, 8);
        C.runDue("one key of the block is left", q, 0, 2, 8, 12, 0, 3, 9);
        C.due("free", q.about(2), 7);
        C.takesDue("nine", q, 9);
        C.runDue("the first block is gone", q, 0, 3, 0, 11, 0, 2, 10);
        C.due("free", q.about(2), 8);
        C.takesDue("ten more", q, 10, 11, 12, 13, 14, 15, 16, 17, 18, 19);
        C.runDue("one key is left", q, 0, 4, 1, 1, 0, 1, 20);
        C.takesDue("the last one of the run", q, 20);
        C.aboutDue("the run is gone", q, 0, 1, 10);
        C.takesDue("from memory", q, 1000, -1);
        C.due("no write", q.about(5), 4);
    }

    private static void syncedBlocksAreKept() {
        SpillQueue q = twentyKeysInThreeBlocks();
        C.due("sync()", q.sync(), 0);
        // The run of 1000 makes two of level 0: they are merged behind the three blocks and it.
        C.runDue("merged", q, 0, 6, 0, 21, 1, 3, 1);
        C.due("free", q.about(2), 7);
        C.takesDue("nine", q, 1, 2, 3, 4, 5, 6, 7, 8, 9);
        C.runDue("its second block", q, 0, 7, 0, 12, 1, 2, 10);
        C.due("the first one is still synced", q.about(2), 7);
        C.due("recover()", q.recover(), 21);
        C.takesDue("again", q, 1);
    }

    /** "-1 when there is none" */
    private static void withoutAKeyItChangesNothing() {
        SpillQueue q = Make.formatted(5, 11, 2, 2);
        Make.insertAll(C, q, 2, 1, 3);
        C.due("sync()", q.sync(), 0);
        C.takesDue("all", q, 1, 2, 3);
        q.cutAt(1);
        String before = Look.at(q) + Look.atDisk(q, 5, 11);
        C.takesDue("none", q, -1, -1);
        C.same("behind it", Look.at(q) + Look.atDisk(q, 5, 11), before);
        C.due("the cut is still to come", q.sync(), -9);
        C.due("recover()", q.recover(), 3);
        C.takesDue("they are there again", q, 1, 2, 3, -1);
    }

    /** Only memory knows what was taken: neither the disk nor the writes change. */
    private static void itWritesNothing() {
        SpillQueue q = Make.formatted(8, 11, 10, 5);
        Make.insertDown(C, q, 1, 10);
        Make.insertAll(C, q, 20);
        q.cutAt(1);
        String disk = Look.atDisk(q, 8, 11);
        int writes = q.about(5);
        for (int key = 1; key <= 10; key++) {
            C.takesDue("key " + key, q, key);
        }
        C.takesDue("the others", q, 20, -1);
        C.same("the disk", Look.atDisk(q, 8, 11), disk);
        C.due("writes", q.about(5), writes);
        C.due("live", q.about(6), 0);
    }
}
