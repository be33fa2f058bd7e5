/** insert(), with the spill that a full memory asks for. */
public final class Promise03InsertTest {
    private static final Check C = new Check();

    public static void main(String[] args) {
        keysComeToMemory();
        aFullMemorySpillsFirst();
        levelsAreMerged();
        mostRunsAreMergedFirst();
        aboveTheGreatestLevel();
        theLeastCrowdedLevelFirst();
        noRoomToMergeAll();
        noRoomBehindTheMerge();
        noRoomToMergeALevelIsNoHarm();
        powerIsCutAtEachWrite();
        C.end();
    }

    private static void keysComeToMemory() {
        SpillQueue q = Make.formatted(6, 11, 3, 2);
        C.badArgument("insert(-1)", () -> q.insert(-1));
        C.badArgument("insert(least int)", () -> q.insert(Integer.MIN_VALUE));
        C.due("no key came", q.about(1), 0);
        Make.insertAll(C, q, 0, Integer.MAX_VALUE, 0);
        C.aboutDue("three keys", q, 0, 3, 4, 1, 2, 1, 0);
        q.cut();
        C.dead("insert(1)", () -> q.insert(1));
        C.dead("insert(-1)", () -> q.insert(-1));
    }

    private static void aFullMemorySpillsFirst() {
        SpillQueue q = Make.formatted(9, 11, 11, 2);
        Make.insertAll(C, q, 11, 1, 10, 2, 9, 3, 8, 4, 7, 5, 6);
        C.badArgument("insert(-1), memory is full", () -> q.insert(-1));
        C.aboutDue("memory is full", q, 0, 11, 7, 1, 2, 1, 0);
        Make.insertAll(C, q, 99);
        C.aboutDue("spilled", q, 1, 1, 5, 1, 2, 3, 0);
        C.runDue("spilled", q, 0, 2, 0, 11, 0, 2, 1);
        int full = 7 + 3 * 3;
        for (int i = 2; i < 11; i++) {
            full += (i - 1) * (2 * i + 1);
        }
        C.blockDue("spilled", q, 2, full, 3, 1, 2, 3, 4, 5, 6, 7, 8, 9);
        int last = 7 + 10 * 5 + 11 * 7;
        C.blockDue("spilled", q, 3, last, 0, 10, 11, 0, 0, 0, 0, 0, 0, 0);
        C.due("size()", q.size(), 12);
    }

    private static void levelsAreMerged() {
        SpillQueue q = Make.formatted(20, 23, 1, 2);
        Make.insertAll(C, q, 8, 6);
        C.runDue("one", q, 0, 2, 0, 1, 0, 1, 8);
        Make.insertAll(C, q, 7);
        C.due("runs", q.about(0), 1);
        C.runDue("two, merged", q, 0, 4, 0, 2, 1, 1, 6);
        Make.insertAll(C, q, 5);
        C.runDue("three", q, 0, 4, 0, 2, 1, 1, 6);
        C.runDue("three", q, 1, 2, 0, 1, 0, 1, 7);
        Make.insertAll(C, q, 4);
        C.due("runs", q.about(0), 1);
        // [7] at 2 and [5] at 3 go to 5; then 4 and 5 go to 2, which is free by then.
        C.runDue("four, merged twice", q, 0, 2, 0, 4, 2, 1, 5);
        C.blockDue("four", q, 2, 7 + 5 * 5 + 6 * 7 + 7 * 9 + 8 * 11, 0, 5, 6, 7, 8, 0);
        C.due("writes", q.about(5), 1 + 4 + 3);

        SpillQueue three = Make.formatted(20, 23, 1, 3);
        Make.insertAll(C, three, 1, 2, 3);
        C.due("below fan", three.about(0), 2);
        Make.insertAll(C, three, 4);
        C.due("fan", three.about(0), 1);
        C.runDue("fan", three, 0, 5, 0, 3, 1, 1, 1);
    }

    private static void mostRunsAreMergedFirst() {
        SpillQueue q = Make.formatted(20, 11, 1, 5);
        Make.insertAll(C, q, 5, 6, 7);
        C.due("MOST runs", q.about(0), 2);
        Make.insertAll(C, q, 8);
        C.due("runs", q.about(0), 2);
        C.runDue("merged", q, 0, 4, 0, 2, 1, 1, 5);
        C.runDue("behind it", q, 1, 2, 0, 1, 0, 1, 7);
        Make.insertAll(C, q, 9);
        C.runDue("merged again", q, 0, 3, 0, 3, 2, 1, 5);
        C.runDue("behind it", q, 1, 2, 0, 1, 0, 1, 8);
        C.takesDue("all", q, 5, 6, 7, 8, 9, -1);
    }

    private static void aboveTheGreatestLevel() {
        SpillQueue q = twoSyncedRuns(20, 11);
        q.cut();
        Make.forge(q, 11, 1, 10, 5);
        C.due("recover()", q.recover(), 2);
        Make.insertAll(C, q, 3, 4);
        C.runDue("above run 1's level", q, 0, 4, 0, 2, 6, 1, 20);
        C.runDue("behind it", q, 1, 5, 0, 1, 0, 1, 3);
    }

    private static void theLeastCrowdedLevelFirst() {
        SpillQueue q = Make.formatted(20, 23, 1, 2);
        Make.insertAll(C, q, 1, 2, 3, 4, 5, 6, 7);
        C.due("sync()", q.sync(), 0);
        C.due("levels 2, 1 and 0", q.about(0), 3);
        q.cut();
        Make.forge(q, 23, 0, 6, 9);
        Make.forge(q, 23, 0, 10, 9);
        C.due("recover()", q.recover(), 7);
        Make.insertAll(C, q, 8, 0);
        C.due("both levels are merged", q.about(0), 2);
        C.due("level 0 first", q.run(0, 3), 1);
        C.due("its keys", q.run(0, 2), 2);
        C.due("its least key", q.run(0, 5), 7);
        C.due("then level 9", q.run(1, 3), 10);
        C.due("its keys", q.run(1, 2), 6);
        C.due("its least key", q.run(1, 5), 1);
    }

    /** Two synced runs in blocks 2 and 3, and a full memory. */
    private static SpillQueue twoSyncedRuns(int blocks, int words) {
        SpillQueue q = Make.formatted(blocks, words, 1, 5);
        Make.insertAll(C, q, 30);
        C.due("sync()", q.sync(), 0);
        Make.insertAll(C, q, 20);
        C.due("sync()", q.sync(), 0);
        Make.insertAll(C, q, 10);
        C.aboutDue("two synced runs", q, 2, 1, blocks - 4, 3, (words - 3) / 4, 5, 0);
        return q;
    }

    private static void noRoomToMergeAll() {
        SpillQueue q = twoSyncedRuns(4, 11);
        C.due("insert(5)", q.insert(5), -2);
        C.aboutDue("as before", q, 2, 1, 0, 3, 2, 5, 0);
        C.runDue("as before", q, 0, 2, 0, 1, 0, 1, 30);
        C.takesDue("the key did not come", q, 10, 20, 30, -1);
    }

    private static void noRoomBehindTheMerge() {
        SpillQueue q = twoSyncedRuns(5, 11);
        C.due("insert(5)", q.insert(5), -2);
        C.aboutDue("what was merged stays so", q, 1, 1, 0, 3, 2, 6, 0);
        C.runDue("what was merged stays so", q, 0, 4, 0, 2, 1, 1, 20);
        C.due("insert(5)", q.insert(5), -2);
        C.due("sync()", q.sync(), -2);
        C.aboutDue("nothing is synced", q, 1, 1, 0, 3, 2, 6, 0);
        C.takesDue("the key did not come", q, 10, 20, 30, -1);
    }

    private static void noRoomToMergeALevelIsNoHarm() {
        SpillQueue q = Make.formatted(4, 19, 1, 2);
        Make.insertAll(C, q, 3, 2, 1);
        C.aboutDue("not merged", q, 2, 1, 0, 1, 4, 3, 0);
        C.runDue("not merged", q, 0, 2, 0, 1, 0, 1, 3);
        C.runDue("not merged", q, 1, 3, 0, 1, 0, 1, 2);
        C.takesDue("1 and 2", q, 1, 2);
        Make.insertAll(C, q, 5, 6);
        C.due("again two of a level, and no room", q.about(0), 2);
        C.takesDue("3 and 5", q, 3, 5, 6, -1);
    }

    private static void powerIsCutAtEachWrite() {
        // The last insert writes three blocks: a run of level 0, and two merges.
        for (int n = 1; n <= 4; n++) {
            SpillQueue q = Make.formatted(20, 23, 1, 2);
            Make.insertAll(C, q, 8, 6, 7, 5);
            q.cutAt(n);
            C.due("insert(4), cut at " + n, q.insert(4), n <= 3 ? -9 : 0);
            C.due("writes, cut at " + n, q.about(5), 1 + 4 + Math.min(n - 1, 3));
            C.due("dead, cut at " + n, q.about(6), n <= 3 ? 1 : 0);
            C.due("size, cut at " + n, q.size(), n <= 3 ? 0 : 5);
            C.due("block 5, cut at " + n, q.word(5, 2), n >= 3 ? 5 : 0);
            C.due("block 2, cut at " + n, q.word(2, 2), n >= 4 ? 5 : 7);
        }
    }
}
