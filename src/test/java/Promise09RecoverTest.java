/** recover(): which superblock is good, and what is there then. */
public final class Promise09RecoverTest {
    private static final Check C = new Check();
    private static final int WORDS = 15;
    private static final int PER_BLOCK = WORDS - 2;

    public static void main(String[] args) {
        withoutADisk();
        whatWasSyncedIsThereAgain();
        theGreaterEpochCounts();
        theOlderOneStandsIn();
        whatMakesASuperblockBad();
        whatMakesARunBad();
        whatMakesABlockBad();
        whatIsStillGood();
        syncedBlocksAreNotWritten();
        C.end();
    }

    private static void withoutADisk() {
        SpillQueue q = new SpillQueue();
        C.dead("recover()", () -> q.recover());
    }

    /**
     * Dead, epoch 2 in block 0: run 0 of level 0 with the keys 3, 4, .. 20 in blocks 2 and 3 (1
     * and 2 are taken), run 1 of level 0 with the keys 5, 5 in block 4. Epoch 1 is spoiled.
     */
    private static SpillQueue twoRuns() {
        SpillQueue q = Make.formatted(9, WORDS, 20, 5);
        for (int key = 1; key <= 20; key++) {
            q.insert(key);
        }
        q.insert(5);
        C.takesDue("two", q, 1, 2);
        q.insert(5);
        C.due("sync()", q.sync(), 0);
        q.cut();
        q.spoil(1, 0, 1);
        return q;
    }

    private static void whatWasSyncedIsThereAgain() {
        SpillQueue q = twoRuns();
        C.due("recover()", q.recover(), 20);
        C.aboutDue("recovered", q, 2, 0, 4, 2, 3, 5, 0);
        C.runDue("recovered", q, 0, 2, 2, 18, 0, 2, 3);
        C.runDue("recovered", q, 1, 4, 0, 2, 0, 1, 5);
        C.due("size()", q.size(), 20);
        C.takesDue("some", q, 3, 4, 5, 5, 5, 6);
        Make.insertAll(C, q, 0);
        C.due("recover() while live", q.recover(), 20);
        C.aboutDue("memory is lost", q, 2, 0, 4, 2, 3, 5, 0);
        C.runDue("as it was synced", q, 0, 2, 2, 18, 0, 2, 3);
        C.takesDue("again", q, 3);
    }

    private static void theGreaterEpochCounts() {
        SpillQueue q = Make.formatted(9, WORDS, 2, 5);
        for (int epoch = 2; epoch <= 5; epoch++) {
            Make.insertAll(C, q, epoch);
            C.due("sync()", q.sync(), 0);
            C.due("recover()", q.recover(), epoch - 1);
            C.due("epoch", q.about(3), epoch);
        }
    }

    private static void theOlderOneStandsIn() {
        SpillQueue q = Make.formatted(9, WORDS, 2, 5);
        Make.insertAll(C, q, 7);
        C.due("sync()", q.sync(), 0);
        Make.insertAll(C, q, 6);
        C.due("sync()", q.sync(), 0);
        q.cut();
        q.spoil(1, 14, 1 << 31);
        C.due("recover()", q.recover(), 1);
        C.aboutDue("epoch 2", q, 1, 0, 6, 2, 3, 5, 0);
        Make.insertAll(C, q, 5);
        C.due("sync()", q.sync(), 0);
        C.due("epoch 3 is written anew", q.word(1, 1), 3);
        C.due("recover()", q.recover(), 2);
        C.takesDue("all", q, 5, 7, -1);

        q.cut();
        q.spoil(0, 0, 1);
        q.spoil(1, 0, 1);
        C.due("none is good", q.recover(), -3);
        C.aboutDue("it stays dead", q, 0, 0, 0, 0, 0, 7, 1);
        C.dead("min()", () -> q.min());
        q.spoil(0, 0, 1);
        C.due("epoch 2 is good again", q.recover(), 1);
    }

    private static void badWhen(String why, int block, int i, int value) {
        SpillQueue q = twoRuns();
        Make.forge(q, WORDS, block, i, value);
        C.due("recover(), " + why, q.recover(), -3);
    }

    private static void goodWhen(String why, int block, int i, int value, int keys) {
        SpillQueue q = twoRuns();
        Make.forge(q, WORDS, block, i, value);
        C.due("recover(), " + why, q.recover(), keys);
    }

    private static void whatMakesASuperblockBad() {
        for (int i = 0; i < WORDS; i++) {
            SpillQueue q = twoRuns();
            q.spoil(0, i, 1);
            C.due("recover(), word " + i + " is spoiled", q.recover(), -3);
            q.spoil(0, i, 1);
            C.due("recover(), word " + i + " is mended", q.recover(), 20);
        }
        badWhen("epoch 0", 0, 1, 0);
        badWhen("epoch -2", 0, 1, -2);
        badWhen("an odd epoch", 0, 1, 3);
        badWhen("-1 runs", 0, 2, -1);
        badWhen("the least number of runs", 0, 2, Integer.MIN_VALUE);
        badWhen("MOST + 1 runs", 0, 2, 4);
        badWhen("the greatest number of runs", 0, 2, Integer.MAX_VALUE);
        badWhen("a run of zeros", 0, 2, 3);
    }

    private static void whatMakesARunBad() {
        badWhen("level -1", 0, 6, -1);
        badWhen("level -1 of run 1", 0, 10, -1);
        badWhen("no key", 0, 5, 0);
        badWhen("-1 keys", 0, 5, -1);
        badWhen("a block less than is there", 0, 5, 11);
        badWhen("a block more than is there", 0, 5, 25);
        badWhen("more keys than the disk can have", 0, 5, Integer.MAX_VALUE);
        badWhen("the least number of keys", 0, 5, Integer.MIN_VALUE);
        badWhen("it begins at -1", 0, 4, -1);
        badWhen("it begins behind the block", 0, 4, PER_BLOCK);
        badWhen("it begins far behind", 0, 4, Integer.MAX_VALUE);
        badWhen("it begins far before", 0, 4, Integer.MIN_VALUE);
        badWhen("its first block is a superblock", 0, 3, 1);
        badWhen("its first block is 0", 0, 3, 0);
        badWhen("its first block is -1", 0, 3, -1);
        badWhen("its first block is behind the disk", 0, 3, 9);
        badWhen("its first block is far behind", 0, 3, Integer.MAX_VALUE);
        badWhen("its first block is a block of zeros", 0, 3, 5);
        badWhen("a block in two runs", 0, 7, 3);
    }

    private static void whatMakesABlockBad() {
        for (int i = 0; i < WORDS; i++) {
            SpillQueue q = twoRuns();
            q.spoil(2, i, 4);
            C.due("recover(), block 2, word " + i, q.recover(), -3);
            q.spoil(2, i, 4);
            q.spoil(3, i, 8);
            C.due("recover(), block 3, word " + i, q.recover(), -3);
        }
        badWhen("the chain ends early", 2, 1, 0);
        badWhen("the chain goes to itself", 2, 1, 2);
        badWhen("the chain goes to another run", 2, 1, 4);
        badWhen("the chain goes to a superblock", 2, 1, 1);
        badWhen("the chain goes behind the disk", 2, 1, 9);
        badWhen("the chain goes below the disk", 2, 1, -1);
        badWhen("the chain does not end", 3, 1, 5);
        badWhen("the chain ends in itself", 3, 1, 3);
        badWhen("the chain ends in a negative number", 3, 1, -1);
        badWhen("the chain ends in block 1", 3, 1, 1);
        badWhen("a key below 0 comes first", 2, 4, -3);
        badWhen("a key below 0", 2, 8, -7);
        badWhen("a key above the next one", 2, 6, 7);
        badWhen("a last key above the next block's", 2, 14, 15);
        badWhen("a last key below that before it", 3, 8, 18);
    }

    private static void whatIsStillGood() {
        SpillQueue behind = twoRuns();
        Make.forge(behind, WORDS, 0, 4, PER_BLOCK);
        Make.forge(behind, WORDS, 0, 5, 20 - PER_BLOCK);
        C.due("recover(), all keys are behind the first block", behind.recover(), -3);
        goodWhen("a greater epoch", 0, 1, Integer.MAX_VALUE - 1, 20);
        goodWhen("no runs", 0, 2, 0, 0);
        goodWhen("one run less", 0, 2, 1, 18);
        goodWhen("the greatest level", 0, 6, Integer.MAX_VALUE, 20);
        goodWhen("it begins at 0", 0, 4, 0, 20);
        goodWhen("a key less", 0, 5, 17, 19);
        goodWhen("as few keys as its blocks may have", 0, 5, 12, 14);
        goodWhen("two equal keys", 2, 6, 6, 20);
        goodWhen("the least key is 0", 2, 4, 0, 20);
        goodWhen("a key that was taken", 2, 2, -5, 20);
        goodWhen("a key behind the last one", 3, 9, -5, 20);
        goodWhen("a word behind the runs", 0, 14, 5, 20);
        goodWhen("the greatest key", 3, 8, Integer.MAX_VALUE, 20);

        SpillQueue one = twoRuns();
        Make.forge(one, WORDS, 0, 8, PER_BLOCK - 1);
        Make.forge(one, WORDS, 0, 9, 1);
        C.due("recover(), run 1 begins at the block's last key", one.recover(), 19);
        C.runDue("a run of the zero there", one, 1, 4, PER_BLOCK - 1, 1, 0, 1, 0);
        C.takesDue("the zero", one, 0);
        C.due("run 1 is gone", one.about(0), 1);

        SpillQueue high = twoRuns();
        Make.forge(high, WORDS, 0, 1, 8);
        C.due("recover()", high.recover(), 20);
        C.due("sync()", high.sync(), 0);
        C.due("epoch 9", high.word(1, 1), 9);
    }

    private static void syncedBlocksAreNotWritten() {
        // Keys come and go until every free block has been used; what was synced must outlive it.
        SpillQueue q = Make.formatted(9, WORDS, 3, 2);
        Make.insertAll(C, q, 40, 41, 42, 43);
        C.due("sync()", q.sync(), 0);
        for (int round = 0; round < 30; round++) {
            q.insert(round);
            q.insert(100 + round);
            q.take();
            q.take();
        }
        C.due("recover()", q.recover(), 4);
        C.takesDue("all", q, 40, 41, 42, 43, -1);
        C.due("free", q.about(2), 6);
        for (int round = 0; round < 30; round++) {
            q.insert(round);
            q.insert(100 + round);
            q.take();
        }
        C.due("recover() from a recovered one", q.recover(), 4);
        C.takesDue("all", q, 40, 41, 42, 43, -1);
    }
}
