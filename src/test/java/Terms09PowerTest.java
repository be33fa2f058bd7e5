/** The terms of power that is cut at a write. */
public final class Terms09PowerTest {
    private static final Check C = new Check();

    public static void main(String[] args) {
        everyWriteOfASpillWithMostRuns();
        everyWriteOfASpillThatMergesLevels();
        everyWriteOfASync();
        theCutWaitsForALaterCall();
        whatIsNoWriteDoesNotCount();
        theTenThousandthWrite();
        whatIsLost();
        whatIsKept();
        recoveryLiftsTheCut();
        formatLiftsTheCut();
        C.end();
    }

    private interface Build {
        SpillQueue make();
    }

    private interface Go {
        int on(SpillQueue q);
    }

    /**
     * "the n-th from then on: it and all behind it don't happen": the call's writes are these
     * blocks, in this order. Cut at the n-th, the disk has the first n - 1 of them as the whole
     * call leaves them after n - 1 writes, and the others as they were. The keys that were synced
     * before the call are there again then; cut behind the call, those that are synced by it.
     */
    private static void cutAtEach(String name, Build build, Go call, String synced, String then,
            int... order) {
        int blocks = 12;
        int words = 11;
        String[] before = disk(build.make(), blocks, words);
        for (int n = 1; n <= order.length + 1; n++) {
            String when = name + ", cut at write " + n;
            SpillQueue q = build.make();
            int writes = q.about(5);
            q.cutAt(n);
            boolean cut = n <= order.length;
            C.due(when, call.on(q), cut ? -9 : 0);
            C.due(when + ": dead", q.about(6), cut ? 1 : 0);
            C.due(when + ": writes", q.about(5), writes + n - 1);
            String[] after = disk(q, blocks, words);
            if (n > 1) {
                int written = order[n - 2];
                if (after[written].equals(before[written])) {
                    C.say(when + ": block " + written + " is not written");
                }
                before[written] = after[written];
            }
            for (int block = 0; block < blocks; block++) {
                C.same(when + ": block " + block, after[block], before[block]);
            }
            q.recover();
            C.same(when + ": the keys", Look.keysTaken(q), cut ? synced : then);
        }
    }

    private static String[] disk(SpillQueue q, int blocks, int words) {
        String[] text = new String[blocks];
        for (int block = 0; block < blocks; block++) {
            StringBuilder some = new StringBuilder();
            for (int i = 0; i < words; i++) {
                some.append(q.word(block, i)).append(' ');
            }
            text[block] = some.toString();
        }
        return text;
    }

    private static String keys(int from, int to) {
        StringBuilder text = new StringBuilder();
        for (int key = from; key <= to; key++) {
            text.append(key).append(',');
        }
        return text.toString();
    }

    /** Runs of 10 keys in blocks 2, 3 and 4, 5, and 10 keys in memory; MOST is 2. */
    private static SpillQueue mostRuns(boolean synced) {
        SpillQueue q = Make.formatted(12, 11, 10, 5);
        Make.insertDown(C, q, 21, 30);
        Make.insertDown(C, q, 11, 20);
        if (synced) {
            C.due("sync()", q.sync(), 0);
        }
        Make.insertDown(C, q, 1, 10);
        C.due("MOST runs", q.about(0), 2);
        return q;
    }

    private static void everyWriteOfASpillWithMostRuns() {
        cutAtEach("insert(), MOST runs", () -> mostRuns(false), q -> q.insert(50), "", "",
                6, 7, 8, 2, 3);
        cutAtEach("sync(), MOST runs", () -> mostRuns(false), q -> q.sync(), "", keys(1, 30),
                6, 7, 8, 2, 3, 0);
        cutAtEach("insert(), MOST synced runs", () -> mostRuns(true), q -> q.insert(50),
                keys(11, 30), keys(11, 30), 6, 7, 8, 9, 10);
        cutAtEach("sync(), MOST synced runs", () -> mostRuns(true), q -> q.sync(),
                keys(11, 30), keys(1, 30), 6, 7, 8, 9, 10, 1);
    }

    /** A run of level 0 with 10 keys in blocks 2 and 3, and 10 keys in memory; FAN is 2. */
    private static SpillQueue oneRun(boolean synced) {
        SpillQueue q = Make.formatted(12, 11, 10, 2);
        Make.insertDown(C, q, 11, 20);
        if (synced) {
            C.due("sync()", q.sync(), 0);
        }
        Make.insertDown(C, q, 1, 10);
        if (!synced) {
            C.due("runs", q.about(0), 1);
        }
        return q;
    }

    private static void everyWriteOfASpillThatMergesLevels() {
        // The new run goes to 4 and 5, and both then to 6, 7 and 8.
        cutAtEach("insert(), FAN runs", () -> oneRun(false), q -> q.insert(50), "", "",
                4, 5, 6, 7, 8);
        cutAtEach("insert(), FAN runs, one synced", () -> oneRun(true), q -> q.insert(50),
                keys(11, 20), keys(11, 20), 4, 5, 6, 7, 8);
        cutAtEach("insert(), runs of a key", () -> {
            SpillQueue q = Make.formatted(12, 11, 1, 2);
            Make.insertAll(C, q, 1, 2);
            C.due("a run", q.about(0), 1);
            return q;
        }, q -> q.insert(9), "", "", 3, 4);
    }

    private static void everyWriteOfASync() {
        cutAtEach("sync(), FAN runs", () -> oneRun(false), q -> q.sync(), "", keys(1, 20),
                4, 5, 6, 7, 8, 0);
        cutAtEach("sync(), FAN runs, one synced", () -> oneRun(true), q -> q.sync(),
                keys(11, 20), keys(1, 20), 4, 5, 6, 7, 8, 1);
        cutAtEach("sync(), no key", () -> Make.formatted(12, 11, 1, 2), q -> q.sync(), "", "", 0);
        cutAtEach("sync(), no key, epoch 3", () -> {
            SpillQueue q = Make.formatted(12, 11, 1, 2);
            C.due("sync()", q.sync(), 0);
            return q;
        }, q -> q.sync(), "", "", 1);
        // What was taken is there again, unless the superblock is written.
        cutAtEach("sync(), keys were taken", () -> {
            SpillQueue q = oneRun(true);
            Look.keysTaken(q);
            return q;
        }, q -> q.sync(), keys(11, 20), "", 1);
    }

    private static void theCutWaitsForALaterCall() {
        SpillQueue q = Make.formatted(9, 19, 2, 5);
        Make.insertAll(C, q, 1, 2);
        q.cutAt(4);
        C.due("write 1", q.insert(3), 0);
        C.due("no write", q.insert(4), 0);
        C.due("writes 2 and 3", q.sync(), 0);
        C.due("no write", q.insert(5), 0);
        C.due("write 4", q.sync(), -9);
        C.due("writes", q.about(5), 4);
        C.due("what was synced", q.recover(), 4);
    }

    private static void whatIsNoWriteDoesNotCount() {
        SpillQueue q = Make.formatted(4, 19, 2, 5);
        Make.insertAll(C, q, 1, 2, 3, 4, 5, 6);
        C.due("no block is free", q.about(2), 0);
        q.cutAt(1);
        C.due("a spill that can't be made", q.insert(7), -2);
        C.due("a sync that is not done", q.sync(), -2);
        C.takesDue("both of a run", q, 1, 2);
        C.due("min()", q.min(), 3);
        C.due("still live", q.about(6), 0);
        C.due("the first write", q.insert(7), -9);
        C.due("writes", q.about(5), 3);
    }

    /**
     * "(1 .. 10000)": each spill of a key more merges all runs, as MOST is 2, so that the writes of
     * all calls are far more than the calls.
     */
    private static void theTenThousandthWrite() {
        SpillQueue q = Make.formatted(200, 11, 1, 5);
        q.cutAt(10000);
        int key = 0;
        int answer = 0;
        int writes = 0;
        while (key < 500 && answer == 0) {
            writes += writesOfInsert(key);
            answer = q.insert(key);
            C.due("insert number " + key, answer, writes < 10000 ? 0 : -9);
            key++;
        }
        C.due("cut", answer, -9);
        C.due("9999 writes behind format()'s own", q.about(5), 10000);
        C.due("dead", q.about(6), 1);
    }

    /** With so many keys in the queue: one of them is in memory, one in a run of its own. */
    private static int writesOfInsert(int keys) {
        if (keys == 0) {
            return 0;
        }
        return 1 + (keys >= 3 ? (keys - 1 + 8) / 9 : 0);
    }

    /** "the queue is DEAD, and what is in memory (keys, runs, all but ..) is lost" */
    private static void whatIsLost() {
        SpillQueue q = Make.formatted(9, 19, 2, 5);
        Make.insertAll(C, q, 1, 2, 3);
        C.due("sync()", q.sync(), 0);
        Make.insertAll(C, q, 4, 5);
        q.cutAt(1);
        C.due("insert()", q.insert(6), -9);
        C.aboutDue("dead", q, 0, 0, 0, 0, 0, 4, 1);
        C.due("size()", q.size(), 0);
        C.dead("insert()", () -> q.insert(6));
        C.dead("min()", () -> q.min());
        C.dead("take()", () -> q.take());
        C.dead("sync()", () -> q.sync());
        C.dead("cutAt()", () -> q.cutAt(0));
        C.dead("run()", () -> q.run(0, 0));
        C.due("recover()", q.recover(), 3);
        C.aboutDue("no key is in memory", q, 2, 0, 5, 2, 4, 4, 0);
        C.takesDue("neither 4 nor 5 nor 6", q, 1, 2, 3, -1);
    }

    /** ".. all but the disk, WRITES and the sizes": MEM, FAN, BLOCKS and WORDS. */
    private static void whatIsKept() {
        SpillQueue q = Make.formatted(9, 20, 3, 3);
        Make.insertAll(C, q, 1, 2, 3, 4);
        String disk = Look.atDisk(q, 9, 20);
        q.cutAt(1);
        C.due("sync()", q.sync(), -9);
        C.same("the disk", Look.atDisk(q, 9, 20), disk);
        C.due("WRITES", q.about(5), 2);
        C.due("recover()", q.recover(), 0);
        C.due("WRITES", q.about(5), 2);
        C.aboutDue("BLOCKS and WORDS", q, 0, 0, 7, 1, 4, 2, 0);
        C.badIndex("no block more", () -> q.word(9, 0));
        C.badIndex("no word more", () -> q.word(0, 20));
        Make.insertAll(C, q, 1, 2, 3);
        C.due("MEM keys in memory", q.about(0), 0);
        Make.insertAll(C, q, 4, 5, 6, 7);
        C.due("less than FAN runs", q.about(0), 2);
        Make.insertAll(C, q, 8, 9, 10);
        C.due("FAN runs are merged", q.about(0), 1);
        C.due("to level 1", q.run(0, 3), 1);
    }

    /** "power is not to be cut any more" */
    private static void recoveryLiftsTheCut() {
        SpillQueue q = Make.formatted(4, 11, 1, 2);
        q.cutAt(1);
        C.due("recover()", q.recover(), 0);
        C.due("sync()", q.sync(), 0);
        q.cutAt(3);
        q.cut();
        C.due("recover()", q.recover(), 0);
        for (int n = 0; n < 6; n++) {
            C.due("sync() number " + n, q.sync(), 0);
        }
        q.cutAt(1);
        q.cut();
        q.spoil(0, 0, 1);
        q.spoil(1, 0, 1);
        C.due("none is good", q.recover(), -3);
        q.spoil(0, 0, 1);
        C.due("recover()", q.recover(), 0);
        C.due("sync()", q.sync(), 0);
    }

    private static void formatLiftsTheCut() {
        SpillQueue q = Make.formatted(4, 11, 1, 2);
        for (int n = 1; n <= 3; n++) {
            q.cutAt(n);
            q.format(4, 11, 1, 2);
            C.aboutDue("its own write is not cut", q, 0, 0, 2, 1, 2, 1, 0);
            C.wholeBlockDue("it is written", q, 11, 1, 1, 0);
            for (int i = 0; i < 4; i++) {
                C.due("sync()", q.sync(), 0);
            }
        }
    }
}
