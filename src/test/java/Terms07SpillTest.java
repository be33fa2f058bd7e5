/** The terms of a spill, step by step. */
public final class Terms07SpillTest {
    private static final Check C = new Check();

    public static void main(String[] args) {
        belowMostRunsNothingIsMergedFirst();
        mostRunsAreAllMergedFirst();
        aLevelAboveTheGreatest();
        mergingAllCannotBeMade();
        mergingAllCanJustBeMade();
        theRunOfMemoryCannotBeMade();
        whatWasMergedStaysSo();
        whatWasMergedMakesRoom();
        theRunOfMemoryIsOfAllItsKeys();
        fanRunsOfALevelAreMerged();
        moreThanFanRunsOfALevelAreMerged();
        runsOfALevelNeedNotBeNeighbours();
        theLeastSuchLevelComesFirst();
        asLongAsThereIsOne();
        thatItCannotBeMadeIsTheEnd();
        theEndIsNoHarm();
        onlyASpillMerges();
        C.end();
    }

    private static SpillQueue forged(int blocks, int words, int mem, int fan, int... levels) {
        return Make.ofLevels(C, blocks, words, mem, fan, levels);
    }

    /** "1. if there are MOST runs": there is one less. */
    private static void belowMostRunsNothingIsMergedFirst() {
        SpillQueue q = forged(20, 15, 1, 5, 3, 1);
        Make.insertAll(C, q, 50, 60);
        C.due("MOST runs", q.about(0), 3);
        C.runDue("as before", q, 0, 2, 0, 1, 3, 1, 100);
        C.runDue("as before", q, 1, 3, 0, 1, 1, 1, 101);
        C.runDue("behind them", q, 2, 4, 0, 1, 0, 1, 50);
        C.due("one write", q.about(5), 2);
    }

    /** "1. if there are MOST runs, all of them are merged" */
    private static void mostRunsAreAllMergedFirst() {
        SpillQueue q = forged(20, 15, 1, 5, 3, 1, 2);
        Make.insertAll(C, q, 50, 60);
        C.due("runs", q.about(0), 2);
        C.runDue("all of them", q, 0, 5, 0, 3, 4, 1, 100);
        C.runDue("behind it", q, 1, 6, 0, 1, 0, 1, 50);
        C.wholeBlockDue("all of them", q, 15, 5, 0, 100, 101, 102);
        C.due("two writes", q.about(5), 3);
    }

    /** "to a level above their greatest one": wherever that is. */
    private static void aLevelAboveTheGreatest() {
        int[][] levels = {{7, 1, 2}, {1, 7, 2}, {1, 2, 7}, {7, 7, 7}, {7, 0, 7}, {0, 0, 7}};
        for (int[] some : levels) {
            SpillQueue q = forged(20, 15, 1, 5, some);
            Make.insertAll(C, q, 50);
            C.due("sync()", q.sync(), 0);
            C.runDue("above 7", q, 0, 5, 0, 3, 8, 1, 100);
        }
        SpillQueue zeros = forged(20, 15, 1, 5, 0, 0, 0);
        Make.insertAll(C, zeros, 50);
        C.due("sync()", zeros.sync(), 0);
        C.due("above 0", zeros.run(0, 3), 1);
        SpillQueue great = forged(20, 15, 1, 5, 0, Integer.MAX_VALUE - 1, 1);
        Make.insertAll(C, great, 50);
        C.due("sync()", great.sync(), 0);
        C.due("the greatest level of all", great.run(0, 3), Integer.MAX_VALUE);
        C.due("it is a right one", great.recover(), 4);
    }

    /** Two runs of 9 keys, in blocks 2 and 3, and 9 keys in memory. MOST is 2. */
    private static SpillQueue twoFullRuns(int blocks) {
        SpillQueue q = Make.formatted(blocks, 11, 9, 5);
        Make.insertDown(C, q, 201, 209);
        Make.insertDown(C, q, 101, 109);
        Make.insertDown(C, q, 1, 9);
        C.aboutDue("two full runs", q, 2, 9, blocks - 4, 1, 2, 3, 0);
        return q;
    }

    /** "if that can't be made, there is no spill": even where the run of memory's keys could be. */
    private static void mergingAllCannotBeMade() {
        SpillQueue q = twoFullRuns(5);
        String before = Look.at(q) + Look.atDisk(q, 5, 11);
        C.due("insert()", q.insert(50), -2);
        C.same("behind insert()", Look.at(q) + Look.atDisk(q, 5, 11), before);
        C.due("sync()", q.sync(), -2);
        C.same("behind sync()", Look.at(q) + Look.atDisk(q, 5, 11), before);
        C.takesDue("one", q, 1);
        C.due("there is room in memory", q.insert(50), 0);
        C.due("no spill", q.sync(), -2);
    }

    private static void mergingAllCanJustBeMade() {
        SpillQueue q = twoFullRuns(6);
        C.due("insert()", q.insert(50), 0);
        C.aboutDue("merged to 4 and 5, and one in 2", q, 2, 1, 1, 1, 2, 6, 0);
        C.runDue("merged", q, 0, 4, 0, 18, 1, 2, 101);
        C.runDue("behind it", q, 1, 2, 0, 9, 0, 1, 1);
    }

    /** "2. .. if it can't be made, there is no spill": the keys stay in memory. */
    private static void theRunOfMemoryCannotBeMade() {
        SpillQueue q = Make.formatted(4, 19, 35, 5);
        Make.insertDown(C, q, 1, 35);
        C.due("insert()", q.insert(50), -2);
        C.aboutDue("as before", q, 0, 35, 2, 1, 4, 1, 0);
        C.due("sync()", q.sync(), -2);
        C.aboutDue("as before", q, 0, 35, 2, 1, 4, 1, 0);
        C.takesDue("one", q, 1);
        C.due("34 keys fit", q.sync(), 0);
        C.aboutDue("all in a run", q, 1, 0, 0, 2, 4, 4, 0);
    }

    /** "(what was merged stays so)" */
    private static void whatWasMergedStaysSo() {
        // Both runs are synced: what is merged goes to the only free block, and frees none.
        SpillQueue q = forged(5, 11, 1, 5, 4, 6);
        Make.insertAll(C, q, 50);
        C.due("insert()", q.insert(60), -2);
        C.aboutDue("merged", q, 1, 1, 0, 1, 2, 2, 0);
        C.runDue("merged", q, 0, 4, 0, 2, 7, 1, 100);
        C.wholeBlockDue("merged", q, 11, 4, 0, 100, 101);
        C.due("insert() again", q.insert(60), -2);
        C.due("sync()", q.sync(), -2);
        C.aboutDue("it is not merged again, and nothing is synced", q, 1, 1, 0, 1, 2, 2, 0);
        C.due("what was synced is there", q.recover(), 2);
        C.runDue("as it was", q, 0, 2, 0, 1, 4, 1, 100);
        C.runDue("as it was", q, 1, 3, 0, 1, 6, 1, 101);
        C.due("the block is free again", q.about(2), 1);
    }

    /**
     * The steps are done in their order: there is one free block, and memory's keys need two. With
     * synced runs, step 1 frees none of them; with others it frees two.
     */
    private static void whatWasMergedMakesRoom() {
        SpillQueue synced = forged(5, 11, 10, 5, 0, 0);
        Make.insertDown(C, synced, 1, 10);
        C.due("sync()", synced.sync(), -2);
        C.aboutDue("merged all the same", synced, 1, 10, 0, 1, 2, 2, 0);
        C.runDue("merged all the same", synced, 0, 4, 0, 2, 1, 1, 100);

        SpillQueue q = Make.formatted(5, 11, 10, 5);
        Make.insertAll(C, q, 201);
        int[] greatest = {300, 301};
        for (int key : greatest) {
            Make.insertDown(C, q, 1, 9);
            Make.insertAll(C, q, key);
            C.takesDue("all but one of the new run", q, 1, 2, 3, 4, 5, 6, 7, 8, 9);
        }
        C.runDue("one key is left", q, 0, 3, 0, 1, 0, 1, 201);
        C.runDue("one key is left", q, 1, 4, 0, 1, 0, 1, 300);
        Make.insertDown(C, q, 1, 9);
        C.aboutDue("a full memory", q, 2, 10, 1, 1, 2, 5, 0);
        Make.insertAll(C, q, 302);
        C.aboutDue("merged to block 2, and memory's keys in 3 and 4", q, 2, 1, 0, 1, 2, 8, 0);
        C.runDue("merged", q, 0, 2, 0, 2, 1, 1, 201);
        C.runDue("memory's keys", q, 1, 3, 0, 10, 0, 2, 1);
    }

    /** "A run of level 0 of all keys in memory is made .. Then no key is in memory." */
    private static void theRunOfMemoryIsOfAllItsKeys() {
        for (int count = 1; count <= 4; count++) {
            SpillQueue q = forged(20, 23, 4, 5, 9);
            Make.insertDown(C, q, 1, count);
            C.due("sync()", q.sync(), 0);
            C.aboutDue(count + " keys", q, 2, 0, 16);
            C.runDue(count + " keys", q, 1, 3, 0, count, 0, 1, 1);
        }
        SpillQueue full = forged(20, 23, 4, 5, 9);
        Make.insertDown(C, full, 1, 4);
        Make.insertAll(C, full, 0);
        C.aboutDue("only the new key is in memory", full, 2, 1, 16);
        C.runDue("the others", full, 1, 3, 0, 4, 0, 1, 1);
        C.due("the new key is the least", full.min(), 0);
    }

    /** "3. As long as there is a level with FAN runs or more": one less, and just so many. */
    private static void fanRunsOfALevelAreMerged() {
        for (int fan = 2; fan <= 5; fan++) {
            SpillQueue q = Make.formatted(20, 40, 1, fan);
            for (int n = 1; n < fan; n++) {
                Make.insertAll(C, q, n);
                C.due("sync()", q.sync(), 0);
                C.due("fan " + fan + ": runs", q.about(0), n);
                C.due("fan " + fan + ": level", q.run(0, 3), 0);
            }
            Make.insertAll(C, q, fan);
            C.due("sync()", q.sync(), 0);
            C.due("fan " + fan + ": merged", q.about(0), 1);
            C.runDue("fan " + fan, q, 0, 2 + fan, 0, fan, 1, 1, 1);
        }
        SpillQueue q = forged(20, 40, 1, 3, 4, 4, 6, 6);
        Make.insertAll(C, q, 1, 2);
        C.due("two of 4, two of 6, one of 0", q.about(0), 5);
        SpillQueue three = forged(20, 40, 1, 3, 4, 4, 4, 6, 6);
        Make.insertAll(C, three, 1, 2);
        C.due("two of 6, one of 0, one of 5", three.about(0), 4);
        C.runDue("those of 4", three, 3, 8, 0, 3, 5, 1, 100);
    }

    /** "FAN runs or more .. those of the least such level are merged": all of them, at once. */
    private static void moreThanFanRunsOfALevelAreMerged() {
        SpillQueue q = forged(20, 40, 1, 2, 0, 0, 0, 0, 8);
        Make.insertAll(C, q, 1);
        C.due("sync()", q.sync(), 0);
        C.due("runs", q.about(0), 2);
        C.runDue("the other level", q, 0, 6, 0, 1, 8, 1, 104);
        C.runDue("five of level 0", q, 1, 8, 0, 5, 1, 1, 1);
        C.due("writes: two and the superblock", q.about(5), 4);
    }

    private static void runsOfALevelNeedNotBeNeighbours() {
        SpillQueue q = forged(20, 40, 1, 3, 3, 5, 3, 0, 3);
        Make.insertAll(C, q, 1);
        C.due("sync()", q.sync(), 0);
        C.due("runs", q.about(0), 4);
        C.runDue("level 5", q, 0, 3, 0, 1, 5, 1, 101);
        C.runDue("level 0", q, 1, 5, 0, 1, 0, 1, 103);
        C.runDue("the new one", q, 2, 7, 0, 1, 0, 1, 1);
        C.runDue("three of level 3", q, 3, 8, 0, 3, 4, 1, 100);
        C.wholeBlockDue("three of level 3", q, 40, 8, 0, 100, 102, 104);
    }

    /** "those of the least such level": wherever they are. */
    private static void theLeastSuchLevelComesFirst() {
        SpillQueue first = forged(20, 40, 1, 2, 2, 2, 7, 7);
        Make.insertAll(C, first, 1);
        C.due("sync()", first.sync(), 0);
        C.due("runs", first.about(0), 3);
        C.runDue("level 0", first, 0, 6, 0, 1, 0, 1, 1);
        C.runDue("level 2 was merged first", first, 1, 7, 0, 2, 3, 1, 100);
        C.runDue("then level 7", first, 2, 8, 0, 2, 8, 1, 102);

        SpillQueue last = forged(20, 40, 1, 2, 7, 7, 2, 2);
        Make.insertAll(C, last, 1);
        C.due("sync()", last.sync(), 0);
        C.due("runs", last.about(0), 3);
        C.runDue("level 0", last, 0, 6, 0, 1, 0, 1, 1);
        C.runDue("level 2 was merged first", last, 1, 7, 0, 2, 3, 1, 102);
        C.runDue("then level 7", last, 2, 8, 0, 2, 8, 1, 100);

        // Levels 0 and 1 are less still, but have too few runs.
        SpillQueue few = forged(20, 40, 1, 3, 1, 6, 6, 6, 4, 4, 4);
        Make.insertAll(C, few, 1);
        C.due("sync()", few.sync(), 0);
        C.due("runs", few.about(0), 4);
        C.due("level 1", few.run(0, 3), 1);
        C.due("level 0", few.run(1, 3), 0);
        C.runDue("level 4 was merged first", few, 2, 10, 0, 3, 5, 1, 104);
        C.runDue("then level 6", few, 3, 11, 0, 3, 7, 1, 101);
    }

    /** "As long as ..": the merged run makes FAN of the next level. "to the next level" */
    private static void asLongAsThereIsOne() {
        SpillQueue q = forged(20, 40, 1, 2, 3, 2, 1, 0);
        Make.insertAll(C, q, 1);
        C.due("sync()", q.sync(), 0);
        C.due("runs", q.about(0), 1);
        C.due("level", q.run(0, 3), 4);
        C.due("keys", q.run(0, 2), 5);
        C.due("writes: five and the superblock", q.about(5), 1 + 5 + 1);
        // Blocks 2 .. 5 are synced: 6 is the new one's, and 7, 6, 7, 6 those of the merged ones.
        C.due("its block", q.run(0, 0), 6);

        SpillQueue gap = forged(20, 40, 1, 2, 3, 2, 0);
        Make.insertAll(C, gap, 1);
        C.due("sync()", gap.sync(), 0);
        C.due("there is none of level 1: it ends there", gap.about(0), 3);
        C.due("level", gap.run(2, 3), 1);
    }

    /**
     * Levels 1, 1 with a key each, and level 0 with 17; memory has 17 keys. Behind the run of
     * these, level 0 needs two blocks to be merged, and level 1 only one.
     */
    private static SpillQueue aWideLevelBelowANarrowOne(int blocks) {
        SpillQueue q = forged(blocks, 19, 17, 2, 1, 2);
        Make.insertDown(C, q, 1, 17);
        C.due("sync()", q.sync(), 0);
        C.runDue("level 0", q, 2, 4, 0, 17, 0, 1, 1);
        q.cut();
        Make.forge(q, 19, 0, 10, 1);
        C.due("recover()", q.recover(), 19);
        Make.insertDown(C, q, 21, 37);
        C.aboutDue("levels 1, 1, 0", q, 3, 17, blocks - 5, 2, 4, 3, 0);
        return q;
    }

    /** "if that can't be made, it is the end": even where a greater level's runs could be. */
    private static void thatItCannotBeMadeIsTheEnd() {
        SpillQueue q = aWideLevelBelowANarrowOne(7);
        Make.insertAll(C, q, 40);
        C.aboutDue("nothing is merged", q, 4, 1, 1, 2, 4, 4, 0);
        C.due("level", q.run(0, 3), 1);
        C.due("level", q.run(1, 3), 1);
        C.due("level", q.run(2, 3), 0);
        C.runDue("the new one", q, 3, 5, 0, 17, 0, 1, 21);

        SpillQueue more = aWideLevelBelowANarrowOne(8);
        Make.insertAll(C, more, 40);
        C.aboutDue("level 0 is merged, then it is the end", more, 3, 1, 1, 2, 4, 6, 0);
        C.runDue("three of level 1", more, 2, 6, 0, 34, 1, 2, 1);
    }

    /** The spill is done all the same: the key comes, and sync() syncs. */
    private static void theEndIsNoHarm() {
        SpillQueue q = Make.formatted(4, 19, 1, 2);
        Make.insertAll(C, q, 3, 2);
        C.due("insert()", q.insert(1), 0);
        C.aboutDue("two of level 0", q, 2, 1, 0, 1, 4, 3, 0);
        C.takesDue("memory is empty", q, 1);
        C.due("sync()", q.sync(), 0);
        C.due("two of level 0", q.about(0), 2);

        SpillQueue other = Make.formatted(4, 19, 1, 2);
        Make.insertAll(C, other, 3, 2);
        C.due("sync()", other.sync(), 0);
        C.aboutDue("two of level 0, synced", other, 2, 0, 0, 2, 4, 4, 0);
        C.due("recover()", other.recover(), 2);
        C.takesDue("all", other, 2, 3, -1);
    }

    /** Neither recover() nor a sync() without keys in memory merges, nor does an insert() with room. */
    private static void onlyASpillMerges() {
        SpillQueue q = forged(20, 19, 2, 2, 0, 0, 0, 0);
        C.due("recover()", q.recover(), 4);
        C.due("sync()", q.sync(), 0);
        Make.insertAll(C, q, 1, 2);
        C.aboutDue("MOST runs, all of a level", q, 4, 2, 14, 2, 4, 2, 0);
        Make.insertAll(C, q, 3);
        C.aboutDue("now a spill", q, 2, 1, 12, 2, 4, 4, 0);
        C.takesDue("the new run goes", q, 1, 2, 3, 100);
        C.runDue("the merged one is left", q, 0, 6, 1, 3, 1, 1, 101);
    }
}
