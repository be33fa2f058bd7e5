/** The terms of the superblocks: what they have, and how many runs fit. */
public final class Terms02SuperblockTest {
    private static final Check C = new Check();

    public static void main(String[] args) {
        mostIsCutOff();
        mostRunsAreThereAndNoMore();
        nineRunsInTheWidestBlock();
        noRuns();
        aFullSuperblock();
        itsFirstBlockAndWhereItBegins();
        zerosAreBehindTheRuns();
        theTwoTakeTurns();
        theSumIsAsThatOfOtherBlocks();
        C.end();
    }

    /** "At most MOST = (WORDS - 3) / 4 runs are there (cut off)." */
    private static void mostIsCutOff() {
        int[] due = {
            2, 2, 2, 2, 3, 3, 3, 3, 4, 4, 4, 4, 5, 5, 5, 5, 6, 6, 6, 6, 7, 7, 7, 7, 8, 8, 8, 8, 9, 9};
        for (int words = 11; words <= 40; words++) {
            SpillQueue q = Make.formatted(4, words, 1, 2);
            C.due("MOST of " + words + " words", q.about(4), due[words - 11]);
        }
    }

    /** Levels are forged, so that no level has FAN runs: then only MOST can bring a merge. */
    private static void mostRunsAreThereAndNoMore() {
        for (int words = 11; words <= 40; words++) {
            int most = (words - 3) / 4;
            int[] levels = new int[most - 1];
            for (int i = 0; i < levels.length; i++) {
                levels[i] = i + 1;
            }
            SpillQueue q = Make.ofLevels(C, 40, words, 1, 5, levels);
            Make.insertAll(C, q, 800, 900);
            C.due(words + " words: MOST runs", q.about(0), most);
            Make.insertAll(C, q, 1000);
            C.due(words + " words: all merged, and one more", q.about(0), 2);
            C.due(words + " words: all keys of them", q.run(0, 2), most);
        }
    }

    /** Without forging: 49 spills of fan 5 leave 4 runs of level 0, 4 of level 1 and 1 of level 2. */
    private static void nineRunsInTheWidestBlock() {
        SpillQueue q = Make.formatted(100, 40, 1, 5);
        for (int key = 1; key <= 49; key++) {
            Make.insertAll(C, q, key);
        }
        C.due("sync()", q.sync(), 0);
        C.aboutDue("nine runs", q, 9, 0);
        int[] superblock = new int[2 + 4 * 9];
        superblock[0] = 2;
        superblock[1] = 9;
        for (int i = 0; i < 9; i++) {
            for (int what = 0; what < 4; what++) {
                superblock[2 + 4 * i + what] = q.run(i, what);
            }
            C.due("keys of run " + i, q.run(i, 2), i == 0 ? 25 : i < 5 ? 5 : 1);
            C.due("level of run " + i, q.run(i, 3), i == 0 ? 2 : i < 5 ? 1 : 0);
        }
        C.wholeBlockDue("nine runs", q, 40, 0, superblock);
        C.due("recover()", q.recover(), 49);
        C.due("nine runs again", q.about(0), 9);
        C.due("the last one's key", q.run(8, 5), 49);
        Make.insertAll(C, q, 50, 51);
        C.due("all merged, and one more", q.about(0), 2);
        C.due("above the greatest level", q.run(0, 3), 3);
        C.due("all keys of them", q.run(0, 2), 49);
    }

    private static void noRuns() {
        SpillQueue q = Make.formatted(6, 11, 3, 2);
        C.wholeBlockDue("epoch 1", q, 11, 1, 1, 0);
        C.blockDue("epoch 2 is not written yet", q, 0, 0, 0, 0, 0, 0, 0, 0, 0, 0, 0, 0);
        C.due("sync()", q.sync(), 0);
        C.wholeBlockDue("epoch 2", q, 11, 0, 2, 0);
    }

    /** Four runs in 19 words: the last word is the last run's level. */
    private static void aFullSuperblock() {
        SpillQueue q = Make.formatted(30, 19, 1, 3);
        Make.insertAll(C, q, 1, 2, 3, 4, 5, 6, 7, 8);
        C.due("sync()", q.sync(), 0);
        C.due("runs", q.about(0), 4);
        C.runDue("level 1", q, 0, 5, 0, 3, 1, 1, 1);
        C.runDue("level 1", q, 1, 6, 0, 3, 1, 1, 4);
        C.runDue("level 0", q, 2, 2, 0, 1, 0, 1, 7);
        C.runDue("level 0", q, 3, 3, 0, 1, 0, 1, 8);
        C.wholeBlockDue("full", q, 19, 0,
                2, 4, 5, 0, 3, 1, 6, 0, 3, 1, 2, 0, 1, 0, 3, 0, 1, 0);
        q.cut();
        Make.forge(q, 19, 0, 18, 7);
        C.due("recover()", q.recover(), 8);
        C.runDue("the last word is its level", q, 3, 3, 0, 1, 7, 1, 8);
        C.due("sync()", q.sync(), 0);
        C.wholeBlockDue("full, the last word too", q, 19, 1,
                3, 4, 5, 0, 3, 1, 6, 0, 3, 1, 2, 0, 1, 0, 3, 0, 1, 7);
    }

    /** "its first block, at which of the keys of that block it begins (from 0), how many keys" */
    private static void itsFirstBlockAndWhereItBegins() {
        SpillQueue q = Make.formatted(12, 11, 12, 5);
        Make.insertDown(C, q, 1, 12);
        C.due("sync()", q.sync(), 0);
        C.wholeBlockDue("it begins at 0", q, 11, 0, 2, 1, 2, 0, 12, 0);
        C.takesDue("one", q, 1);
        C.due("sync()", q.sync(), 0);
        C.wholeBlockDue("it begins at 1", q, 11, 1, 3, 1, 2, 1, 11, 0);
        C.takesDue("seven", q, 2, 3, 4, 5, 6, 7, 8);
        C.due("sync()", q.sync(), 0);
        C.wholeBlockDue("it begins at the last one", q, 11, 0, 4, 1, 2, 8, 4, 0);
        C.takesDue("one", q, 9);
        C.due("sync()", q.sync(), 0);
        C.wholeBlockDue("it begins at 0 of the next block", q, 11, 1, 5, 1, 3, 0, 3, 0);
        C.takesDue("two", q, 10, 11);
        C.due("sync()", q.sync(), 0);
        C.wholeBlockDue("it begins at its last key", q, 11, 0, 6, 1, 3, 2, 1, 0);
        C.takesDue("one", q, 12);
        C.due("sync()", q.sync(), 0);
        C.wholeBlockDue("it is gone", q, 11, 1, 7, 0);
    }

    /** "(zeros behind them)": also where a superblock of more runs was. */
    private static void zerosAreBehindTheRuns() {
        SpillQueue q = Make.formatted(12, 14, 1, 5);
        Make.insertAll(C, q, 1);
        C.due("sync()", q.sync(), 0);
        C.wholeBlockDue("one run", q, 14, 0, 2, 1, 2, 0, 1, 0);
        Make.insertAll(C, q, 2);
        C.due("sync()", q.sync(), 0);
        C.wholeBlockDue("two runs", q, 14, 1, 3, 2, 2, 0, 1, 0, 3, 0, 1, 0);
        C.takesDue("one", q, 1);
        C.due("sync()", q.sync(), 0);
        C.wholeBlockDue("the other run", q, 14, 0, 4, 1, 3, 0, 1, 0);
        C.takesDue("one", q, 2);
        C.due("sync()", q.sync(), 0);
        C.wholeBlockDue("none where two were", q, 14, 1, 5, 0);
    }

    /** "a superblock is written at the block that is its lowest bit" */
    private static void theTwoTakeTurns() {
        SpillQueue q = Make.formatted(4, 11, 1, 2);
        for (int epoch = 2; epoch <= 9; epoch++) {
            C.due("sync()", q.sync(), 0);
            C.due("epoch", q.about(3), epoch);
            C.due("even epochs in block 0", q.word(0, 1), epoch - epoch % 2);
            C.due("odd epochs in block 1", q.word(1, 1), epoch - 1 + epoch % 2);
        }
        C.due("no run's block is written", q.word(2, 0) | q.word(3, 0), 0);
    }

    /** "a SUM (as above)" */
    private static void theSumIsAsThatOfOtherBlocks() {
        SpillQueue q = Make.formatted(8, 11, 2, 5);
        C.due("epoch 1: 3 + 7", q.word(1, 0), 10);
        C.due("sync()", q.sync(), 0);
        C.due("epoch 2: 6 + 7", q.word(0, 0), 13);
        Make.insertAll(C, q, 900, 901);
        C.due("sync()", q.sync(), 0);
        int once = 7 + 3 * 3 + 1 * 5 + 2 * 7 + 0 * 9 + 2 * 11 + 0 * 13;
        C.due("epoch 3, a run", q.word(1, 0), once);
        q.cut();
        Make.forge(q, 11, 1, 1, Integer.MAX_VALUE);
        C.due("a great epoch", q.word(1, 0), once - 9 + 3 * Integer.MAX_VALUE);
        C.due("recover()", q.recover(), 2);
        C.due("sync()", q.sync(), 0);
        C.due("the least epoch: 3 (- 2^31) is 2^31", q.word(0, 0), once - 9 + Integer.MIN_VALUE);
    }
}
