/** The terms of what was synced, and of which blocks are free. */
public final class Terms04FreeTest {
    private static final Check C = new Check();
    private static final int WORDS = 11;

    public static void main(String[] args) {
        allButTheSuperblocksAreFreeAtFirst();
        superblocksAreNeverTaken();
        blocksOfARunAreNotFree();
        blocksOfWhatWasSyncedAreNotFree();
        asThatHadThem();
        theSuperblockThatWasWrittenLast();
        aSyncThatIsNotDone();
        aSyncThatPowerCuts();
        whatWasNotSyncedIsFreeAfterRecovery();
        whatTheOtherSuperblockHasIsFree();
        formatSyncsNothing();
        C.end();
    }

    /** "A block is FREE, if it is no superblock, in no run, and in no run of what was synced" */
    private static void allButTheSuperblocksAreFreeAtFirst() {
        int[] sizes = {4, 5, 199, 200};
        for (int blocks : sizes) {
            C.due(blocks + " blocks", Make.formatted(blocks, WORDS, 1, 2).about(2), blocks - 2);
        }
    }

    private static void superblocksAreNeverTaken() {
        SpillQueue q = Make.formatted(4, 19, 1, 5);
        Make.insertAll(C, q, 7, 8);
        C.due("block 2 first", q.run(0, 0), 2);
        Make.insertAll(C, q, 9);
        C.due("then block 3, the last one", q.run(1, 0), 3);
        C.due("none is free", q.about(2), 0);
        C.due("no spill", q.insert(10), -2);
        C.wholeBlockDue("block 1", q, 19, 1, 1, 0);
        C.due("block 0", q.word(0, 0), 0);
    }

    /** Keys 1 .. 20 in memory of 20: a run of them has three blocks, of 9, 9 and 2 keys. */
    private static SpillQueue twentyKeys(int blocks) {
        SpillQueue q = Make.formatted(blocks, WORDS, 20, 5);
        Make.insertDown(C, q, 1, 20);
        return q;
    }

    private static void take(SpillQueue q, int from, int to) {
        for (int key = from; key <= to; key++) {
            C.takesDue("key " + key, q, key);
        }
    }

    private static void blocksOfARunAreNotFree() {
        SpillQueue q = twentyKeys(12);
        C.due("keys in memory have no block", q.about(2), 10);
        Make.insertAll(C, q, 99);
        C.due("a run of three blocks", q.about(2), 7);
        take(q, 1, 8);
        C.due("a key of the first block is left", q.about(2), 7);
        take(q, 9, 9);
        C.due("none is left", q.about(2), 8);
        take(q, 10, 18);
        C.due("none of the second", q.about(2), 9);
        take(q, 19, 19);
        C.due("a key is left", q.about(2), 9);
        take(q, 20, 20);
        C.due("the run is gone", q.about(2), 10);
    }

    /** "in no run of what was synced" */
    private static void blocksOfWhatWasSyncedAreNotFree() {
        SpillQueue q = twentyKeys(12);
        C.due("sync()", q.sync(), 0);
        C.due("in a run and synced", q.about(2), 7);
        take(q, 1, 20);
        C.aboutDue("in no run, but synced", q, 0, 0, 7);
        Make.insertAll(C, q, 50);
        C.due("sync()", q.sync(), 0);
        C.due("it is made in a block that was free", q.run(0, 0), 5);
        C.due("now only that is synced", q.about(2), 9);
        Make.insertAll(C, q, 60);
        C.due("sync()", q.sync(), 0);
        C.due("block 2 is free again", q.run(1, 0), 2);
    }

    /** "(as that had them)": with the first blocks that have gone since, without those before. */
    private static void asThatHadThem() {
        SpillQueue q = twentyKeys(12);
        C.due("sync()", q.sync(), 0);
        take(q, 1, 9);
        C.due("block 2 is gone, but synced", q.about(2), 7);
        C.due("sync()", q.sync(), 0);
        C.due("block 2 is not synced any more", q.about(2), 8);
        take(q, 10, 18);
        C.due("block 3 is gone, but synced", q.about(2), 8);
        Make.insertAll(C, q, 50);
        C.due("sync()", q.sync(), 0);
        C.due("made in block 2", q.run(1, 0), 2);
        C.due("block 3 is free", q.about(2), 8);
        C.due("recover()", q.recover(), 3);
        C.due("as it was", q.about(2), 8);
        take(q, 19, 20);
        C.due("block 4 is gone, but synced", q.about(2), 8);
    }

    /** "What was SYNCED are the runs of the superblock that was written last." */
    private static void theSuperblockThatWasWrittenLast() {
        SpillQueue q = Make.formatted(12, 19, 1, 5);
        Make.insertAll(C, q, 1);
        C.due("sync()", q.sync(), 0);
        Make.insertAll(C, q, 2);
        C.due("sync()", q.sync(), 0);
        C.takesDue("both", q, 1, 2);
        C.due("two are synced", q.about(2), 8);
        C.due("sync()", q.sync(), 0);
        C.due("none is, although block 1 still tells of two", q.about(2), 10);
        C.due("block 1", q.word(1, 2), 2);
    }

    /** "is there none done, nothing is synced" */
    private static void aSyncThatIsNotDone() {
        SpillQueue q = Make.formatted(4, 19, 1, 5);
        Make.insertAll(C, q, 5);
        C.due("block 2", q.sync(), 0);
        Make.insertAll(C, q, 6, 7);
        C.due("block 3 is in a run", q.about(2), 0);
        C.due("sync()", q.sync(), -2);
        C.takesDue("5 and 6", q, 5, 6);
        C.due("block 3 is free, block 2 is synced", q.about(2), 1);
        C.due("sync()", q.sync(), 0);
        C.due("7 is in block 3", q.run(0, 0), 3);
    }

    private static void aSyncThatPowerCuts() {
        SpillQueue q = Make.formatted(6, 19, 1, 5);
        Make.insertAll(C, q, 5);
        C.due("block 2", q.sync(), 0);
        C.takesDue("5", q, 5);
        Make.insertAll(C, q, 6);
        q.cutAt(2);
        C.due("cut at the superblock", q.sync(), -9);
        C.wholeBlockDue("6 is on the disk", q, 19, 3, 0, 6);
        C.due("recover()", q.recover(), 1);
        C.due("block 3 is free", q.about(2), 3);
        C.due("5 is there again", q.min(), 5);
    }

    private static void whatWasNotSyncedIsFreeAfterRecovery() {
        SpillQueue q = Make.formatted(8, 19, 1, 5);
        Make.insertAll(C, q, 5);
        C.due("block 2", q.sync(), 0);
        Make.insertAll(C, q, 6, 7, 8);
        C.due("blocks 3 and 4 are in runs", q.about(2), 3);
        q.cut();
        C.due("a dead one tells 0", q.about(2), 0);
        C.due("recover()", q.recover(), 1);
        C.due("they are free", q.about(2), 5);
        Make.insertAll(C, q, 9);
        C.due("sync()", q.sync(), 0);
        C.due("block 3 is used again", q.run(1, 0), 3);
    }

    /** The one of epoch 3 is spoiled: its blocks 3 and 4 are in no run, and not synced. */
    private static void whatTheOtherSuperblockHasIsFree() {
        SpillQueue q = Make.formatted(8, 19, 10, 5);
        Make.insertAll(C, q, 5);
        C.due("block 2", q.sync(), 0);
        C.takesDue("5", q, 5);
        Make.insertAll(C, q, 11, 12);
        C.due("block 3", q.sync(), 0);
        C.due("epoch 3", q.about(2), 5);
        q.cut();
        q.spoil(1, 5, 1);
        C.due("recover()", q.recover(), 1);
        C.due("epoch 2", q.about(2), 5);
        C.runDue("its run", q, 0, 2, 0, 1, 0, 1, 5);
        C.takesDue("5", q, 5);
        C.due("block 2 is synced", q.about(2), 5);
        Make.insertAll(C, q, 13);
        C.due("sync()", q.sync(), 0);
        C.due("block 3 was free", q.run(0, 0), 3);
    }

    private static void formatSyncsNothing() {
        SpillQueue q = twentyKeys(12);
        C.due("sync()", q.sync(), 0);
        q.format(12, WORDS, 20, 5);
        C.due("all free", q.about(2), 10);
        q.cut();
        C.due("recover()", q.recover(), 0);
        C.due("all free again", q.about(2), 10);
    }
}
