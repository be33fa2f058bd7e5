/** The terms of how runs are merged. */
public final class Terms06MergeTest {
    private static final Check C = new Check();
    private static final int WORDS = 11;
    private static final int FULL = WORDS - 2;

    public static void main(String[] args) {
        oneOfAllTheirKeysIsMade();
        equalKeysAllStay();
        itComesBehindAllOthers();
        theyAreStillThereWhileItIsMade();
        oneBlockTooFewToMerge();
        onlyTheKeysThatAreLeftCount();
        thenTheyGo();
        theirSyncedBlocksAreNotFreeThen();
        C.end();
    }

    /** "one of all their keys is made, of a level" */
    private static void oneOfAllTheirKeysIsMade() {
        SpillQueue q = Make.formatted(20, WORDS, FULL + 1, 2);
        for (int key = 1; key <= 2 * FULL + 1; key += 2) {
            Make.insertAll(C, q, key);
        }
        C.due("the odd ones", q.sync(), 0);
        for (int key = 2; key <= 2 * FULL + 2; key += 2) {
            Make.insertAll(C, q, key);
        }
        C.due("the even ones", q.sync(), 0);
        C.due("runs", q.about(0), 1);
        C.runDue("both", q, 0, 6, 0, 2 * FULL + 2, 1, 3, 1);
        C.wholeBlockDue("first", q, WORDS, 6, 7, 1, 2, 3, 4, 5, 6, 7, 8, 9);
        C.wholeBlockDue("second", q, WORDS, 7, 8, 10, 11, 12, 13, 14, 15, 16, 17, 18);
        C.wholeBlockDue("last", q, WORDS, 8, 0, 19, 20);
        C.due("writes", q.about(5), 1 + 2 + 1 + 2 + 3 + 1);
    }

    private static void equalKeysAllStay() {
        SpillQueue q = Make.formatted(20, WORDS, 3, 2);
        Make.insertAll(C, q, 5, 5, 0);
        C.due("sync()", q.sync(), 0);
        Make.insertAll(C, q, 5, Integer.MAX_VALUE, 0);
        C.due("sync()", q.sync(), 0);
        C.runDue("merged", q, 0, 4, 0, 6, 1, 1, 0);
        C.wholeBlockDue("merged", q, WORDS, 4, 0, 0, 0, 5, 5, 5, Integer.MAX_VALUE);
    }

    /** Levels 0, 5 and a new one of level 0: the two of level 0 make one behind that of level 5. */
    private static SpillQueue aLevelBetween() {
        SpillQueue q = Make.formatted(20, 19, 1, 2);
        Make.insertAll(C, q, 30);
        C.due("sync()", q.sync(), 0);
        q.cut();
        Make.forge(q, 19, 0, 6, 5);
        C.due("recover()", q.recover(), 1);
        Make.insertAll(C, q, 20);
        C.due("sync()", q.sync(), 0);
        q.cut();
        Make.forge(q, 19, 1, 6, 0);
        Make.forge(q, 19, 1, 10, 5);
        C.due("recover()", q.recover(), 2);
        return q;
    }

    /** "(A run that is made comes behind all others ..)" */
    private static void itComesBehindAllOthers() {
        SpillQueue q = aLevelBetween();
        C.runDue("level 0", q, 0, 2, 0, 1, 0, 1, 30);
        C.runDue("level 5", q, 1, 3, 0, 1, 5, 1, 20);
        Make.insertAll(C, q, 10, 40);
        C.due("runs", q.about(0), 2);
        C.runDue("level 5 comes first now", q, 0, 3, 0, 1, 5, 1, 20);
        C.runDue("behind it that of both", q, 1, 5, 0, 2, 1, 1, 10);
    }

    /** Two runs of FULL + 1 keys, in two blocks each, and three blocks are needed to merge them. */
    private static SpillQueue twoRunsOfTwoBlocks(int blocks) {
        SpillQueue q = Make.formatted(blocks, WORDS, FULL + 1, 2);
        Make.insertDown(C, q, 101, 101 + FULL);
        Make.insertDown(C, q, 1, 1 + FULL);
        C.runDue("the first one", q, 0, 2, 0, FULL + 1, 0, 2, 101);
        C.due("memory is full", q.about(1), FULL + 1);
        return q;
    }

    /** "those that are merged are still there while it is made" */
    private static void theyAreStillThereWhileItIsMade() {
        SpillQueue q = twoRunsOfTwoBlocks(2 + 2 + 2 + 3);
        Make.insertAll(C, q, 999);
        C.due("merged", q.about(0), 1);
        C.runDue("in the three blocks that were left", q, 0, 6, 0, 2 * FULL + 2, 1, 3, 1);
        C.aboutDue("four are free then", q, 1, 1, 4, 1, 2, 1 + 2 + 2 + 3, 0);
    }

    /** They would fit, if those that are merged were gone before. */
    private static void oneBlockTooFewToMerge() {
        SpillQueue q = twoRunsOfTwoBlocks(2 + 2 + 2 + 2);
        Make.insertAll(C, q, 999);
        C.aboutDue("not merged", q, 2, 1, 2, 1, 2, 1 + 2 + 2, 0);
        C.runDue("not merged", q, 0, 2, 0, FULL + 1, 0, 2, 101);
        C.runDue("not merged", q, 1, 4, 0, FULL + 1, 0, 2, 1);
        C.due("nothing is written there", q.word(6, 0) | q.word(7, 0), 0);
    }

    private static void onlyTheKeysThatAreLeftCount() {
        SpillQueue q = twoRunsOfTwoBlocks(2 + 2 + 2 + 2);
        C.takesDue("from memory", q, 1, 2, 3, 4, 5, 6, 7, 8, 9, 10);
        C.takesDue("from the run", q, 101, 102);
        Make.insertDown(C, q, 1, 1 + FULL);
        C.due("2 FULL keys are left", q.size(), 2 * FULL);
        Make.insertAll(C, q, 999);
        C.due("merged", q.about(0), 1);
        C.runDue("in the two blocks that were left", q, 0, 6, 0, 2 * FULL, 1, 2, 1);
        C.wholeBlockDue("its last block", q, WORDS, 7, 0,
                10, 103, 104, 105, 106, 107, 108, 109, 110);
    }

    /** "then they go" */
    private static void thenTheyGo() {
        SpillQueue q = Make.formatted(6, 19, 1, 2);
        Make.insertAll(C, q, 3, 2);
        C.aboutDue("one run", q, 1, 1, 3);
        Make.insertAll(C, q, 1);
        C.aboutDue("two, merged: the blocks of both are free", q, 1, 1, 3);
        C.due("it", q.run(0, 0), 4);
        Make.insertAll(C, q, 0);
        C.due("the next one is made in the first of them", q.run(1, 0), 2);
    }

    private static void theirSyncedBlocksAreNotFreeThen() {
        SpillQueue q = Make.formatted(6, 19, 1, 2);
        Make.insertAll(C, q, 3);
        C.due("sync()", q.sync(), 0);
        Make.insertAll(C, q, 2, 1);
        C.aboutDue("merged: block 2 is synced, 3 and 5 are free", q, 1, 1, 2);
        C.runDue("merged", q, 0, 4, 0, 2, 1, 1, 2);
        Make.insertAll(C, q, 0);
        C.due("the next one is made in block 3", q.run(1, 0), 3);
        C.due("recover()", q.recover(), 1);
        C.runDue("what was synced", q, 0, 2, 0, 1, 0, 1, 3);
    }
}
