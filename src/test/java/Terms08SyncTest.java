/** The terms of a sync, with the epoch's wrap-around. */
public final class Terms08SyncTest {
    private static final Check C = new Check();

    public static void main(String[] args) {
        noKeyInMemoryNoSpill();
        oneKeyInMemoryIsEnough();
        withoutASpillNothingIsSynced();
        whatWasMergedIsNotSynced();
        theEpochGrowsByOne();
        theEpochBeforeItWraps();
        theEpochWrapsAround();
        behindTheWrapAround();
        theRunsThatAreThereAreSynced();
        C.end();
    }

    /** "a spill, if there are keys in memory": there is none, and FAN, and MOST, runs stay. */
    private static void noKeyInMemoryNoSpill() {
        SpillQueue q = Make.formatted(20, 11, 1, 5);
        Make.insertAll(C, q, 1, 2, 3);
        C.takesDue("the first run goes", q, 1);
        C.due("sync()", q.sync(), 0);
        int before = q.about(5);
        C.aboutDue("MOST runs", q, 2, 0);
        C.due("sync()", q.sync(), 0);
        C.aboutDue("still MOST runs", q, 2, 0, 16, 3, 2, before + 1, 0);

        SpillQueue none = Make.formatted(4, 11, 1, 2);
        C.due("sync() of an empty queue", none.sync(), 0);
        C.aboutDue("empty", none, 0, 0, 2, 2, 2, 2, 0);
        C.due("recover()", none.recover(), 0);
        C.due("epoch", none.about(3), 2);

        SpillQueue crowd = Make.formatted(4, 19, 1, 2);
        Make.insertAll(C, crowd, 3, 2);
        C.due("no room to merge", crowd.sync(), 0);
        C.due("FAN runs of level 0", crowd.about(0), 2);
        C.due("sync()", crowd.sync(), 0);
        C.aboutDue("still FAN runs", crowd, 2, 0, 0, 3, 4, 5, 0);
    }

    private static void oneKeyInMemoryIsEnough() {
        SpillQueue q = Make.formatted(20, 11, 100, 5);
        Make.insertAll(C, q, 4);
        C.due("sync()", q.sync(), 0);
        C.aboutDue("one key", q, 1, 0, 17, 2, 2, 3, 0);
        C.due("recover()", q.recover(), 1);
        C.takesDue("it", q, 4, -1);
    }

    /** "(is there none done, nothing is synced)" */
    private static void withoutASpillNothingIsSynced() {
        SpillQueue q = Make.formatted(4, 19, 35, 5);
        Make.insertAll(C, q, 1000);
        C.due("sync()", q.sync(), 0);
        Make.insertDown(C, q, 1, 18);
        String before = Look.at(q) + Look.atDisk(q, 4, 19);
        C.due("18 keys need two blocks", q.sync(), -2);
        C.same("behind it", Look.at(q) + Look.atDisk(q, 4, 19), before);
        C.due("again", q.sync(), -2);
        C.due("epoch", q.about(3), 2);
        C.due("recover()", q.recover(), 1);
        C.takesDue("what was synced before", q, 1000, -1);
    }

    /** Step 1 of the spill is done and stays; step 2 can't be: the superblock is not written. */
    private static void whatWasMergedIsNotSynced() {
        SpillQueue q = Make.formatted(5, 11, 1, 5);
        Make.insertAll(C, q, 30);
        C.due("sync()", q.sync(), 0);
        Make.insertAll(C, q, 20);
        C.due("sync()", q.sync(), 0);
        Make.insertAll(C, q, 10);
        C.due("sync()", q.sync(), -2);
        C.aboutDue("merged, not synced", q, 1, 1, 0, 3, 2, 6, 0);
        C.due("block 0 is epoch 2's", q.word(0, 1), 2);
        C.due("block 1 is epoch 3's", q.word(1, 1), 3);
        C.takesDue("memory is empty", q, 10);
        C.due("sync()", q.sync(), 0);
        C.aboutDue("now it is synced", q, 1, 0, 2, 4, 2, 7, 0);
        C.wholeBlockDue("epoch 4", q, 11, 0, 4, 1, 4, 0, 2, 1);
    }

    /** "then the epoch grows by 1" */
    private static void theEpochGrowsByOne() {
        SpillQueue q = Make.formatted(4, 11, 1, 2);
        for (int epoch = 1; epoch <= 20; epoch++) {
            C.due("epoch", q.about(3), epoch);
            C.due("in its block", q.word(epoch & 1, 1), epoch);
            C.due("writes", q.about(5), epoch);
            C.due("sync()", q.sync(), 0);
        }
    }

    /** A queue of one key, 5 in block 2, whose epoch is so great. */
    private static SpillQueue withEpoch(int epoch) {
        SpillQueue q = Make.formatted(8, 11, 1, 5);
        if (epoch % 2 == 1) {
            C.due("sync()", q.sync(), 0);
        }
        Make.insertAll(C, q, 5);
        C.due("sync()", q.sync(), 0);
        q.cut();
        Make.forge(q, 11, epoch % 2, 1, epoch);
        C.due("recover()", q.recover(), 1);
        C.due("epoch", q.about(3), epoch);
        return q;
    }

    private static void theEpochBeforeItWraps() {
        SpillQueue q = withEpoch(Integer.MAX_VALUE - 2);
        C.due("sync()", q.sync(), 0);
        C.due("2^31 - 2 is in block 0", q.word(0, 1), Integer.MAX_VALUE - 1);
        C.due("recover()", q.recover(), 1);
        C.due("it is the greater one", q.about(3), Integer.MAX_VALUE - 1);
        Make.insertAll(C, q, 6);
        C.due("sync()", q.sync(), 0);
        C.due("2^31 - 1 is in block 1", q.word(1, 1), Integer.MAX_VALUE);
        C.due("recover()", q.recover(), 2);
        C.due("it is the greatest one", q.about(3), Integer.MAX_VALUE);
    }

    /** "(wrapping around)" */
    private static void theEpochWrapsAround() {
        SpillQueue q = withEpoch(Integer.MAX_VALUE);
        Make.insertAll(C, q, 6);
        C.due("sync()", q.sync(), 0);
        C.due("the least int", q.about(3), Integer.MIN_VALUE);
        C.wholeBlockDue("its lowest bit is 0", q, 11, 0,
                Integer.MIN_VALUE, 2, 2, 0, 1, 0, 3, 0, 1, 0);
        C.due("block 1 is left", q.word(1, 1), Integer.MAX_VALUE);
        C.due("both are synced: free", q.about(2), 4);
        C.due("recover(): an epoch below 1 is not good", q.recover(), 1);
        C.due("epoch", q.about(3), Integer.MAX_VALUE);
        C.due("free", q.about(2), 5);
        C.takesDue("what that had", q, 5, -1);
    }

    private static void behindTheWrapAround() {
        SpillQueue q = withEpoch(Integer.MAX_VALUE);
        C.due("sync()", q.sync(), 0);
        C.due("sync()", q.sync(), 0);
        C.due("epoch", q.about(3), Integer.MIN_VALUE + 1);
        C.due("its lowest bit is 1", q.word(1, 1), Integer.MIN_VALUE + 1);
        C.due("sync()", q.sync(), 0);
        C.due("and 0 again", q.word(0, 1), Integer.MIN_VALUE + 2);
        C.due("all is there", q.size(), 1);
        C.due("recover(): none is good", q.recover(), -3);
        C.aboutDue("dead", q, 0, 0, 0, 0, 0, 7, 1);
    }

    /** "a superblock is written .. of the runs that are there: they are synced" */
    private static void theRunsThatAreThereAreSynced() {
        SpillQueue q = Make.formatted(20, 19, 3, 5);
        Make.insertAll(C, q, 1, 4, 7, 2, 5, 8, 3);
        C.takesDue("four", q, 1, 2, 3, 4);
        C.due("sync()", q.sync(), 0);
        String before = Look.at(q);
        C.wholeBlockDue("two runs that have begun", q, 19, 0, 2, 2, 2, 2, 1, 0, 3, 1, 2, 0);
        C.due("recover()", q.recover(), 3);
        C.same("recovered", Look.at(q), before);
        C.takesDue("all", q, 5, 7, 8, -1);
        C.due("recover()", q.recover(), 3);
        C.same("recovered again", Look.at(q), before);
    }
}
