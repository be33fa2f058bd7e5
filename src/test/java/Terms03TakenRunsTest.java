/** The terms of how a run's first block goes, how a run goes, and of the order of runs. */
public final class Terms03TakenRunsTest {
    private static final Check C = new Check();
    private static final int WORDS = 11;
    private static final int FULL = WORDS - 2;

    public static void main(String[] args) {
        theFirstBlockGoesWithItsLastKey();
        aRunOfAFullBlockGoes();
        aRunOfTwoFullBlocksGoes();
        aRunWithALastBlockOfOneKeyGoes();
        theNextBlockNeedNotBeTheNextNumber();
        aRecoveredRunGoesOn();
        otherRunsStayInTheirOrder();
        aMergedRunComesLast();
        C.end();
    }

    /** Keys 1 .. count in a run at block 2 and those behind it; 9999 is in memory. */
    private static SpillQueue aRunOf(int count) {
        SpillQueue q = Make.formatted(20, WORDS, count, 5);
        Make.insertDown(C, q, 1, count);
        Make.insertAll(C, q, 9999);
        C.runDue(count + " keys", q, 0, 2, 0, count, 0, (count + FULL - 1) / FULL, 1);
        return q;
    }

    /** "A run's first block goes, when its last key is taken" */
    private static void theFirstBlockGoesWithItsLastKey() {
        int count = 3 * FULL + 1;
        SpillQueue q = aRunOf(count);
        for (int taken = 1; taken <= count; taken++) {
            C.takesDue("key " + taken, q, taken);
            String when = taken + " taken";
            if (taken == count) {
                C.due(when + ": no run", q.about(0), 0);
            } else {
                int gone = taken / FULL;
                C.runDue(when, q, 0, 2 + gone, taken % FULL, count - taken, 0, 4 - gone, taken + 1);
                C.due(when + ": free", q.about(2), 14 + gone);
            }
        }
        C.due("all free", q.about(2), 18);
        C.due("the key in memory", q.min(), 9999);
    }

    /** "so does the run, when it has no key more": the last key of the block and of the run. */
    private static void aRunOfAFullBlockGoes() {
        SpillQueue q = aRunOf(FULL);
        C.takesDue("all but one", q, 1, 2, 3, 4, 5, 6, 7, 8);
        C.runDue("the last key", q, 0, 2, FULL - 1, 1, 0, 1, FULL);
        C.aboutDue("the last key", q, 1, 1, 17);
        C.takesDue("it", q, FULL);
        C.aboutDue("no run", q, 0, 1, 18);
        C.badIndex("run(0, 0)", () -> q.run(0, 0));
        C.takesDue("from memory", q, 9999, -1);
    }

    private static void aRunOfTwoFullBlocksGoes() {
        SpillQueue q = aRunOf(2 * FULL);
        for (int key = 1; key < 2 * FULL; key++) {
            C.takesDue("key " + key, q, key);
        }
        C.runDue("the last key", q, 0, 3, FULL - 1, 1, 0, 1, 2 * FULL);
        C.due("free", q.about(2), 17);
        C.takesDue("it", q, 2 * FULL);
        C.aboutDue("no run", q, 0, 1, 18);
    }

    private static void aRunWithALastBlockOfOneKeyGoes() {
        SpillQueue q = aRunOf(FULL + 1);
        C.takesDue("all but two", q, 1, 2, 3, 4, 5, 6, 7, 8);
        C.runDue("two keys in two blocks", q, 0, 2, FULL - 1, 2, 0, 2, FULL);
        C.takesDue("the last one of the first block", q, FULL);
        C.runDue("one key in one block", q, 0, 3, 0, 1, 0, 1, FULL + 1);
        C.takesDue("the last one", q, FULL + 1);
        C.aboutDue("no run", q, 0, 1, 18);
    }

    private static void theNextBlockNeedNotBeTheNextNumber() {
        SpillQueue q = Make.formatted(20, WORDS, FULL + 1, 5);
        Make.insertAll(C, q, 5);
        C.due("block 2", q.sync(), 0);
        Make.insertAll(C, q, 6);
        C.due("block 3", q.sync(), 0);
        C.takesDue("block 2 goes", q, 5);
        C.due("and is free", q.sync(), 0);
        Make.insertDown(C, q, 101, 101 + FULL);
        C.due("blocks 2 and 4", q.sync(), 0);
        C.runDue("two blocks", q, 1, 2, 0, FULL + 1, 0, 2, 101);
        C.takesDue("the first block's", q, 6, 101, 102, 103, 104, 105, 106, 107, 108, 109);
        C.runDue("the other block", q, 0, 4, 0, 1, 0, 1, 110);
    }

    private static void aRecoveredRunGoesOn() {
        SpillQueue q = aRunOf(FULL + 2);
        C.takesDue("all but one of the block", q, 1, 2, 3, 4, 5, 6, 7, 8);
        C.due("sync()", q.sync(), 0);
        C.due("recover()", q.recover(), 4);
        C.runDue("it begins at the block's last key", q, 0, 2, FULL - 1, 3, 0, 2, 9);
        C.takesDue("that key", q, 9);
        C.runDue("the next block", q, 0, 3, 0, 2, 0, 1, 10);
        C.takesDue("its keys", q, 10, 11);
        C.runDue("the run is gone, the next is the first", q, 0, 4, 0, 1, 0, 1, 9999);
        C.takesDue("all", q, 9999, -1);
        C.due("recover()", q.recover(), 4);
        C.runDue("it begins there again", q, 0, 2, FULL - 1, 3, 0, 2, 9);
    }

    /** "Runs are in the order in which they were made." */
    private static void otherRunsStayInTheirOrder() {
        for (int gone = 0; gone < 4; gone++) {
            SpillQueue q = Make.formatted(20, 23, 1, 5);
            for (int i = 0; i < 4; i++) {
                Make.insertAll(C, q, i == gone ? 1 : 50 - i);
            }
            Make.insertAll(C, q, 9999);
            C.due("runs", q.about(0), 4);
            C.takesDue("run " + gone + " goes", q, 1);
            C.due("runs", q.about(0), 3);
            for (int i = 0, at = 0; i < 4; i++) {
                if (i != gone) {
                    C.runDue("run " + gone + " went", q, at, 2 + i, 0, 1, 0, 1, 50 - i);
                    at++;
                }
            }
        }
    }

    private static void aMergedRunComesLast() {
        SpillQueue q = Make.formatted(20, 23, 1, 2);
        Make.insertAll(C, q, 10, 20, 30, 40);
        C.due("sync()", q.sync(), 0);
        C.runDue("level 2", q, 0, 2, 0, 4, 2, 1, 10);
        Make.insertAll(C, q, 50, 60);
        C.due("sync()", q.sync(), 0);
        C.due("level 1 behind level 2", q.run(1, 3), 1);
        q.cut();
        Make.forge(q, 23, 1, 6, 0);
        C.due("recover()", q.recover(), 6);
        C.due("now level 0 is before level 1", q.run(0, 3), 0);
        Make.insertAll(C, q, 70);
        C.due("sync()", q.sync(), 0);
        // Run 0 and [70] make one of level 1, behind the other of level 1; both make one of level 2.
        C.due("runs", q.about(0), 1);
        C.due("level", q.run(0, 3), 2);
        C.due("keys", q.run(0, 2), 7);

        SpillQueue three = Make.formatted(20, 23, 1, 3);
        Make.insertAll(C, three, 1, 2, 3, 4, 5, 6);
        C.due("sync()", three.sync(), 0);
        C.runDue("made first", three, 0, 5, 0, 3, 1, 1, 1);
        C.runDue("made last", three, 1, 6, 0, 3, 1, 1, 4);
    }
}
