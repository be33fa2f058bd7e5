/** The terms of recovery: what makes a superblock good or not, on both sides of each border. */
public final class Terms10RecoveryTest {
    private static final Check C = new Check();
    private static final int MAX = Integer.MAX_VALUE;
    private static final int MIN = Integer.MIN_VALUE;
    private static final int NONE = -3;
    private static final int BLOCKS = 9;
    private static final int WORDS = 11;
    private static final int FULL = WORDS - 2;

    public static void main(String[] args) {
        itsSumIsRight();
        itsEpochIsOneOrMore();
        itsBlockIsItsEpochModuloTwo();
        itHasZeroToMostRuns();
        itsLevelIsZeroOrMore();
        itHasOneKeyOrMore();
        itsFirstBlockIsFromTwoOn();
        blocksThatFollowAreFromTwoOn();
        blocksHaveRightSums();
        eachBlockIsInOneRunOnce();
        thereAreAsManyBlocksAsItNeeds();
        theLastOneIsFollowedByZero();
        whereItBegins();
        itsKeysAreZeroOrMore();
        theLeastKeyIsFirst();
        whatIsNotItsKeyDoesNotCount();
        theGreaterEpochCounts();
        aBadOneDoesNotCount();
        itsRunsAreThereAndSynced();
        noneIsGood();
        theLongestRun();
        mostRunsAreGood();
        recoveryWritesNothing();
        C.end();
    }

    /** A dead queue; no superblock is good yet, and all other blocks are zeros. */
    private static SpillQueue blank() {
        SpillQueue q = Make.formatted(BLOCKS, WORDS, 5, 5);
        q.cut();
        Make.forgeBlock(q, WORDS, 1);
        return q;
    }

    private static void block(SpillQueue q, int block, int... fromWordOne) {
        Make.forgeBlock(q, WORDS, block, fromWordOne);
    }

    /** Block 0 is a superblock of epoch 2 with these words from word 2 on. */
    private static void runs(SpillQueue q, int... fromWordTwo) {
        int[] words = new int[1 + fromWordTwo.length];
        words[0] = 2;
        System.arraycopy(fromWordTwo, 0, words, 1, fromWordTwo.length);
        block(q, 0, words);
    }

    /** The keys 1, 2, 3 in block 2. */
    private static SpillQueue threeKeys() {
        SpillQueue q = blank();
        block(q, 2, 0, 1, 2, 3);
        runs(q, 1, 2, 0, 3, 0);
        return q;
    }

    /** The keys 1 .. 20 in blocks 5, 3, 7, in this order; the last one has two of them. */
    private static SpillQueue twentyKeys() {
        SpillQueue q = blank();
        block(q, 5, 3, 1, 2, 3, 4, 5, 6, 7, 8, 9);
        block(q, 3, 7, 10, 11, 12, 13, 14, 15, 16, 17, 18);
        block(q, 7, 0, 19, 20);
        runs(q, 1, 5, 0, 20, 0);
        return q;
    }

    private static void recoverDue(String what, SpillQueue q, int want) {
        C.due(what + ": recover()", q.recover(), want);
        C.due(what + ": dead", q.about(6), want == NONE ? 1 : 0);
        C.due(what + ": size()", q.size(), want == NONE ? 0 : want);
    }

    /** "one is GOOD, if its SUM is right" */
    private static void itsSumIsRight() {
        recoverDue("the right sum", threeKeys(), 3);
        int[] bits = {1, 1 << 16, 1 << 31};
        for (int i = 0; i < WORDS; i++) {
            for (int bit : bits) {
                SpillQueue q = threeKeys();
                q.spoil(0, i, bit);
                recoverDue("bit " + bit + " of word " + i, q, NONE);
                q.spoil(0, i, bit);
                recoverDue("bit " + bit + " of word " + i + " turned back", q, 3);
            }
        }
        SpillQueue zeros = blank();
        for (int i = 0; i < WORDS; i++) {
            Make.put(zeros, 1, i, 0);
        }
        recoverDue("a disk of zeros", zeros, NONE);
    }

    private static void epochDue(int block, int epoch, boolean good) {
        SpillQueue q = blank();
        block(q, block, epoch, 0);
        recoverDue("epoch " + epoch + " in block " + block, q, good ? 0 : NONE);
        C.due("epoch " + epoch + " in block " + block + ": epoch", q.about(3), good ? epoch : 0);
    }

    /** "its epoch is 1 or more" */
    private static void itsEpochIsOneOrMore() {
        epochDue(1, 1, true);
        epochDue(0, 2, true);
        epochDue(1, 3, true);
        epochDue(0, MAX - 1, true);
        epochDue(1, MAX, true);
        epochDue(0, 0, false);
        epochDue(1, -1, false);
        epochDue(0, -2, false);
        epochDue(1, -3, false);
        epochDue(0, MIN, false);
        epochDue(1, MIN + 1, false);
    }

    /** "and its block is that modulo 2" */
    private static void itsBlockIsItsEpochModuloTwo() {
        epochDue(0, 1, false);
        epochDue(1, 2, false);
        epochDue(0, 3, false);
        epochDue(1, 4, false);
        epochDue(1, MAX - 1, false);
        epochDue(0, MAX, false);
    }

    /** "it has 0 .. MOST runs" */
    private static void itHasZeroToMostRuns() {
        SpillQueue none = blank();
        runs(none, 0);
        recoverDue("0 runs", none, 0);
        int[] wrong = {-1, 3, 4, 100, MAX, MIN, MIN + 1};
        for (int number : wrong) {
            SpillQueue q = blank();
            block(q, 2, 0, 1);
            block(q, 3, 0, 2);
            runs(q, number, 2, 0, 1, 0, 3, 0, 1, 0);
            recoverDue(number + " runs", q, NONE);
        }
        // With 14 words three runs would fit but for the last one's level.
        for (int number = 2; number <= 3; number++) {
            SpillQueue q = Make.formatted(BLOCKS, 14, 5, 5);
            q.cut();
            q.spoil(1, 0, 1);
            for (int block = 2; block <= 4; block++) {
                Make.forgeBlock(q, 14, block, 0, block);
            }
            Make.forgeBlock(q, 14, 0, 2, number, 2, 0, 1, 0, 3, 0, 1, 0, 4, 0, 1);
            recoverDue(number + " runs in 14 words", q, number == 2 ? 2 : NONE);
        }
        for (int number = 0; number <= 2; number++) {
            SpillQueue q = blank();
            block(q, 2, 0, 1);
            block(q, 3, 0, 2);
            runs(q, number, 2, 0, 1, 0, 3, 0, 1, 0);
            recoverDue(number + " runs, as many as MOST at most", q, number);
            C.due(number + " runs", q.about(0), number);
        }
    }

    /** "its level is 0 or more": of each run. */
    private static void itsLevelIsZeroOrMore() {
        int[] right = {0, 1, MAX};
        int[] wrong = {-1, MIN};
        for (int run = 0; run < 2; run++) {
            for (int level : right) {
                SpillQueue q = aLevel(run, level);
                recoverDue("level " + level + " of run " + run, q, 2);
                C.due("level", q.run(run, 3), level);
            }
            for (int level : wrong) {
                recoverDue("level " + level + " of run " + run, aLevel(run, level), NONE);
            }
        }
    }

    private static SpillQueue aLevel(int run, int level) {
        SpillQueue q = blank();
        block(q, 2, 0, 1);
        block(q, 3, 0, 2);
        runs(q, 2, 2, 0, 1, run == 0 ? level : 0, 3, 0, 1, run == 1 ? level : 0);
        return q;
    }

    private static void runDue(String what, SpillQueue q, int first, int begin, int count, int want) {
        runs(q, 1, first, begin, count, 0);
        recoverDue(what, q, want);
        if (want != NONE && q.about(6) == 0) {
            C.due(what + ": its first block", q.run(0, 0), first);
            C.due(what + ": where it begins", q.run(0, 1), begin);
            C.due(what + ": its keys", q.run(0, 2), count);
        }
    }

    /** "how many keys it has is 1 or more" */
    private static void itHasOneKeyOrMore() {
        runDue("1 key", threeKeys(), 2, 0, 1, 1);
        runDue("0 keys", threeKeys(), 2, 0, 0, NONE);
        runDue("-1 keys", threeKeys(), 2, 0, -1, NONE);
        runDue("1 - 2^31 keys", threeKeys(), 2, 0, MIN + 1, NONE);
        runDue("- 2^31 keys", threeKeys(), 2, 0, MIN, NONE);
        runDue("2^31 - 1 keys", threeKeys(), 2, 0, MAX, NONE);
        runDue("2^31 - 1 keys from 8 on", threeKeys(), 2, 8, MAX, NONE);
        // So many keys that a count of their blocks may wrap around, with and without a block.
        for (int count = MAX; count > MAX - 20; count--) {
            runDue(count + " keys from 0 on", threeKeys(), 2, 0, count, NONE);
            runDue(count + " keys, no block", threeKeys(), 0, 0, count, NONE);
            runDue(count + " keys from 8 on, no block", threeKeys(), 0, 8, count, NONE);
        }
        runDue("0 keys, no block", threeKeys(), 0, 0, 0, NONE);
        runDue("-1 keys, no block", threeKeys(), 0, 0, -1, NONE);
        runDue("0 keys from 3 on", threeKeys(), 2, 3, 0, NONE);
        runDue("-1 keys from 3 on", threeKeys(), 2, 3, -1, NONE);
    }

    /** "its first block .. [is a block] from 2 on" */
    private static void itsFirstBlockIsFromTwoOn() {
        runDue("block 2", threeKeys(), 2, 0, 3, 3);
        SpillQueue last = threeKeys();
        block(last, BLOCKS - 1, 0, 4, 5);
        runDue("the last block", last, BLOCKS - 1, 0, 2, 2);
        int[] wrong = {-1, -2, BLOCKS, BLOCKS + 1, 199, 200, 201, MAX, MIN, MIN + 2};
        for (int first : wrong) {
            runDue("block " + first, threeKeys(), first, 0, 1, NONE);
        }
        // Block 1 has a right sum, no next block and the key 0: all but its number is right.
        SpillQueue one = threeKeys();
        block(one, 1);
        runDue("block 1", one, 1, 0, 1, NONE);
        // So is block 0, from its last word on: its next block is then that of its epoch, 2.
        SpillQueue zero = blank();
        block(zero, 2, 0, 1, 2, 3, 4, 5, 6, 7, 8, 9);
        runDue("block 0", zero, 0, FULL - 1, 1 + FULL, NONE);
    }

    private static SpillQueue twoBlocks(int next) {
        SpillQueue q = blank();
        block(q, 4, next, 0, 0, 0, 0, 0, 0, 0, 0, 0);
        return q;
    }

    /** "and those that follow are blocks from 2 on" */
    private static void blocksThatFollowAreFromTwoOn() {
        int[] right = {2, 3, 5, BLOCKS - 1};
        for (int next : right) {
            SpillQueue q = twoBlocks(next);
            block(q, next, 0, 7);
            runDue("block " + next + " follows", q, 4, 0, FULL + 1, FULL + 1);
            C.due("its blocks", q.run(0, 4), 2);
        }
        int[] wrong = {-1, 0, 1, BLOCKS, BLOCKS + 1, 200, MAX, MIN, MIN + 4};
        for (int next : wrong) {
            // Block 1 is zeros with a right sum.
            runDue("block " + next + " follows", twoBlocks(next), 4, 0, FULL + 1, NONE);
        }
    }

    /** "with right sums": of the first, of one between, and of the last one; in every word. */
    private static void blocksHaveRightSums() {
        recoverDue("three blocks", twentyKeys(), 20);
        int[] its = {5, 3, 7};
        for (int block : its) {
            for (int i = 0; i < WORDS; i++) {
                SpillQueue q = twentyKeys();
                q.spoil(block, i, MIN);
                recoverDue("word " + i + " of block " + block, q, NONE);
                q.spoil(block, i, MIN);
                recoverDue("word " + i + " of block " + block + " turned back", q, 20);
            }
        }
        SpillQueue other = twentyKeys();
        other.spoil(2, 3, 1);
        other.spoil(4, 0, 1);
        recoverDue("blocks that are in no run need no right sum", other, 20);
        SpillQueue zeros = blank();
        runDue("a block of zeros", zeros, 2, 0, 1, NONE);
    }

    /** "each in one run once" */
    private static void eachBlockIsInOneRunOnce() {
        SpillQueue twice = threeKeys();
        runs(twice, 2, 2, 0, 3, 0, 2, 0, 3, 0);
        recoverDue("the same run twice", twice, NONE);
        SpillQueue parts = threeKeys();
        runs(parts, 2, 2, 0, 1, 0, 2, 1, 2, 0);
        recoverDue("two runs of one block, of different keys", parts, NONE);

        SpillQueue tail = twoBlocks(6);
        block(tail, 5, 6, 0, 0, 0, 0, 0, 0, 0, 0, 0);
        block(tail, 6, 0, 7);
        runs(tail, 2, 4, 0, FULL + 1, 0, 5, 0, FULL + 1, 0);
        recoverDue("two runs with one last block", tail, NONE);
        runs(tail, 1, 4, 0, FULL + 1, 0);
        recoverDue("one of them", tail, FULL + 1);
        tail.cut();
        runs(tail, 2, 4, 0, FULL + 1, 0, 6, 0, 1, 0);
        recoverDue("a run within another", tail, NONE);
        runs(tail, 2, 6, 0, 1, 0, 4, 0, FULL + 1, 0);
        recoverDue("a run within a later one", tail, NONE);

        runDue("a block that follows itself", twoBlocks(4), 4, 0, FULL + 1, NONE);
        runDue("so often as to go round", twoBlocks(4), 4, 0, 100, NONE);
        SpillQueue ring = twoBlocks(5);
        block(ring, 5, 4, 0, 0, 0, 0, 0, 0, 0, 0, 0);
        runDue("two blocks in a ring", ring, 4, 0, 3 * FULL, NONE);

        // The two superblocks may have the same blocks: each is looked at by itself.
        SpillQueue both = threeKeys();
        block(both, 1, 3, 1, 2, 1, 2, 0);
        recoverDue("a block in both superblocks", both, 2);
        both.cut();
        both.spoil(1, 0, 1);
        recoverDue("the other one", both, 3);
    }

    /** "there are as many blocks as it needs" */
    private static void thereAreAsManyBlocksAsItNeeds() {
        runDue("one block, full", twentyKeysInBlocks(1), 5, 0, FULL, FULL);
        runDue("one block, a key more", twentyKeysInBlocks(1), 5, 0, FULL + 1, NONE);
        runDue("two blocks, a key less", twentyKeysInBlocks(2), 5, 0, FULL, NONE);
        runDue("two blocks, one key in the last", twentyKeysInBlocks(2), 5, 0, FULL + 1, FULL + 1);
        runDue("two blocks, full", twentyKeysInBlocks(2), 5, 0, 2 * FULL, 2 * FULL);
        runDue("two blocks, a key more", twentyKeysInBlocks(2), 5, 0, 2 * FULL + 1, NONE);
        runDue("three blocks, one less needed", twentyKeysInBlocks(3), 5, 0, 2 * FULL, NONE);
        runDue("three blocks, one key in the last", twentyKeysInBlocks(3), 5, 0, 19, 19);
        // Where it begins counts too.
        runDue("from 1 on, full", twentyKeysInBlocks(1), 5, 1, FULL - 1, FULL - 1);
        runDue("from 1 on, a key more", twentyKeysInBlocks(1), 5, 1, FULL, NONE);
        runDue("from 8 on, one key", twentyKeysInBlocks(1), 5, 8, 1, 1);
        runDue("from 8 on, one key, two blocks", twentyKeysInBlocks(2), 5, 8, 1, NONE);
        runDue("from 8 on, two keys", twentyKeysInBlocks(2), 5, 8, 2, 2);
        runDue("from 8 on, two keys, one block", twentyKeysInBlocks(1), 5, 8, 2, NONE);
        runDue("from 8 on, 10 keys, two blocks", twentyKeysInBlocks(2), 5, 8, 10, 10);
        runDue("from 8 on, 11 keys, two blocks", twentyKeysInBlocks(2), 5, 8, 11, NONE);
        runDue("from 8 on, 11 keys, three blocks", twentyKeysInBlocks(3), 5, 8, 11, 11);
    }

    /** The first blocks of the twenty keys, the last of them followed by 0. */
    private static SpillQueue twentyKeysInBlocks(int number) {
        SpillQueue q = twentyKeys();
        if (number < 3) {
            Make.forge(q, WORDS, number == 1 ? 5 : 3, 1, 0);
        }
        return q;
    }

    /** "and the last one is followed by 0" */
    private static void theLastOneIsFollowedByZero() {
        int[] wrong = {1, 2, 4, 5, 7, 8, BLOCKS, MAX, -1, MIN};
        for (int next : wrong) {
            SpillQueue q = twentyKeys();
            block(q, 2, 0);
            block(q, 4, 0);
            Make.forge(q, WORDS, 7, 1, next);
            recoverDue("followed by " + next, q, NONE);
            SpillQueue one = threeKeys();
            Make.forge(one, WORDS, 2, 1, next);
            recoverDue("a run of one block followed by " + next, one, NONE);
        }
    }

    /** "it begins at a key 0 .. WORDS - 3" */
    private static void whereItBegins() {
        runDue("from 0 on", twentyKeys(), 5, 0, 20, 20);
        runDue("from 1 on", twentyKeys(), 5, 1, 19, 19);
        runDue("from WORDS - 3 on", twentyKeys(), 5, WORDS - 3, 12, 12);
        runDue("from WORDS - 2 on", twentyKeys(), 5, WORDS - 2, 11, NONE);
        runDue("from WORDS - 1 on", twentyKeys(), 5, WORDS - 1, 10, NONE);
        // From -1 on, its first key would be the next block's number, 0: then 1, 2, 3.
        runDue("from -1 on", threeKeys(), 2, -1, 4, NONE);
        runDue("from -1 on, three keys", threeKeys(), 2, -1, 3, NONE);
        runDue("from -2 on", threeKeys(), 2, -2, 5, NONE);
        runDue("from - 2^31 on", threeKeys(), 2, MIN, 3, NONE);
        runDue("from 2^31 - 1 on", threeKeys(), 2, MAX, 3, NONE);
        runDue("from 2^31 - 1 on, 1 key", threeKeys(), 2, MAX, 1, NONE);
    }

    private static void keyDue(int block, int i, int key, int want) {
        SpillQueue q = twentyKeys();
        Make.forge(q, WORDS, block, i, key);
        recoverDue("key " + key + " in word " + i + " of block " + block, q, want);
    }

    /** "its keys are of 0 or more" */
    private static void itsKeysAreZeroOrMore() {
        keyDue(5, 2, 0, 20);
        keyDue(5, 2, -1, NONE);
        keyDue(5, 2, MIN, NONE);
        keyDue(5, 6, -1, NONE);
        keyDue(3, 2, -1, NONE);
        keyDue(7, 3, MAX, 20);
        keyDue(7, 3, -1, NONE);
        keyDue(7, 3, MIN, NONE);
        SpillQueue one = threeKeys();
        block(one, 2, 0, -1);
        runDue("a run of the key -1", one, 2, 0, 1, NONE);
        SpillQueue zero = threeKeys();
        block(zero, 2, 0, 0);
        runDue("a run of the key 0", zero, 2, 0, 1, 1);
        SpillQueue below = threeKeys();
        block(below, 2, 0, -3, -2, -1);
        runDue("rising keys below 0", below, 2, 0, 3, NONE);
        SpillQueue second = threeKeys();
        block(second, 3, 0, -1);
        runs(second, 2, 2, 0, 3, 0, 3, 0, 1, 0);
        recoverDue("the key -1 in the second run", second, NONE);
    }

    /** "the least first": equal ones are fine, one less is not; also from block to block. */
    private static void theLeastKeyIsFirst() {
        keyDue(5, 2, 2, 20);
        keyDue(5, 2, 3, NONE);
        keyDue(5, 3, 1, 20);
        keyDue(5, 3, 0, NONE);
        keyDue(5, 10, 10, 20);
        keyDue(5, 10, 11, NONE);
        keyDue(3, 2, 9, 20);
        keyDue(3, 2, 8, NONE);
        keyDue(3, 10, 19, 20);
        keyDue(3, 10, 20, NONE);
        keyDue(7, 3, 19, 20);
        keyDue(7, 3, 18, NONE);
        // A later run need not have greater keys.
        SpillQueue two = threeKeys();
        block(two, 3, 0, 0);
        runs(two, 2, 2, 0, 3, 0, 3, 0, 1, 0);
        recoverDue("a run of less keys behind it", two, 4);
        C.takesDue("all", two, 0, 1, 2, 3, -1);
    }

    /** Nothing is said of keys that were taken, of words behind the keys, or behind the runs. */
    private static void whatIsNotItsKeyDoesNotCount() {
        SpillQueue taken = twentyKeys();
        Make.forge(taken, WORDS, 5, 2, -7);
        Make.forge(taken, WORDS, 5, 3, 500);
        runDue("keys that were taken", taken, 5, 2, 18, 18);
        C.takesDue("its keys", taken, 3, 4);
        SpillQueue behind = twentyKeys();
        Make.forge(behind, WORDS, 7, 4, -7);
        Make.forge(behind, WORDS, 7, 10, 1);
        recoverDue("words behind the keys", behind, 20);
        SpillQueue runs = blank();
        block(runs, 2, 0, 1);
        runs(runs, 1, 2, 0, 1, 0, -1, -1, -1, -1);
        recoverDue("words behind the runs", runs, 1);
    }

    private static void epochsDue(int even, int odd, int want) {
        SpillQueue q = threeKeys();
        block(q, 0, even, 1, 2, 0, 2, 0);
        block(q, 1, odd, 1, 2, 0, 3, 0);
        String when = "epochs " + even + " and " + odd;
        recoverDue(when, q, want % 2 == 0 ? 2 : 3);
        C.due(when, q.about(3), want);
        C.due(when + ": sync()", q.sync(), 0);
        C.due(when + ": the next one", q.word(1 - want % 2, 1), want + 1);
    }

    /** "The good one with the greater epoch counts" */
    private static void theGreaterEpochCounts() {
        epochsDue(2, 1, 2);
        epochsDue(2, 3, 3);
        epochsDue(4, 3, 4);
        epochsDue(100, 1, 100);
        epochsDue(2, 101, 101);
        epochsDue(MAX - 1, 1, MAX - 1);
        epochsDue(2, MAX, MAX);
        epochsDue(MAX - 1, MAX, MAX);
        epochsDue(MAX - 1, MAX - 2, MAX - 1);
    }

    /** It has the greater epoch, but something of it is not right. */
    private static void aBadOneDoesNotCount() {
        int[][] bad = {
            {2, 3, 2, 0, 3, 0}, {3, -1, 2, 0, 3, 0}, {3, 3, 2, 0, 3, 0}, {3, 1, 1, 0, 3, 0},
            {3, 1, 4, 0, 3, 0}, {3, 1, 2, -1, 3, 0}, {3, 1, 2, 0, 0, 0}, {3, 1, 2, 0, 10, 0},
            {3, 1, 2, 0, 3, -1}, {3, 2, 2, 0, 3, 0, 2, 0, 3, 0}, {-1, 1, 2, 0, 3, 0}};
        for (int[] words : bad) {
            SpillQueue q = threeKeys();
            block(q, 1, words);
            recoverDue("epoch 3 is not good, epoch 2 is", q, 3);
            C.due("epoch", q.about(3), 2);
        }
        SpillQueue run = threeKeys();
        block(run, 3, 0, 5);
        block(run, 1, 3, 1, 3, 0, 1, 0);
        run.spoil(3, 10, 1);
        recoverDue("a block of epoch 3 is spoiled", run, 3);
        C.due("epoch", run.about(3), 2);
        run.cut();
        run.spoil(3, 10, 1);
        recoverDue("it is mended", run, 1);
        C.due("epoch", run.about(3), 3);
        run.cut();
        run.spoil(2, 10, 1);
        recoverDue("a block of epoch 2 is spoiled", run, 1);
        run.cut();
        run.spoil(3, 10, 1);
        recoverDue("both are", run, NONE);
    }

    /** "its runs are there, and synced" */
    private static void itsRunsAreThereAndSynced() {
        SpillQueue q = twentyKeys();
        Make.forge(q, WORDS, 5, 2, 1);
        block(q, 2, 0, 4, 4);
        runs(q, 2, 5, 2, 18, 6, 2, 0, 2, 1);
        recoverDue("two runs", q, 20);
        C.aboutDue("two runs", q, 2, 0, 3, 2, 2, 1, 0);
        C.runDue("run 0", q, 0, 5, 2, 18, 6, 3, 3);
        C.runDue("run 1", q, 1, 2, 0, 2, 1, 1, 4);
        C.badIndex("run 2", () -> q.run(2, 0));
        C.takesDue("some", q, 3, 4, 4, 4, 5, 6, 7, 8, 9);
        C.aboutDue("their blocks are synced", q, 1, 0, 3);
        C.runDue("run 0", q, 0, 3, 0, 11, 6, 2, 10);
        recoverDue("again", q, 20);
        C.aboutDue("two runs again", q, 2, 0, 3, 2, 2, 1, 0);
    }

    /** "Is none good: it stays dead." */
    private static void noneIsGood() {
        SpillQueue q = blank();
        recoverDue("no superblock", q, NONE);
        recoverDue("no superblock yet", q, NONE);
        C.aboutDue("dead", q, 0, 0, 0, 0, 0, 1, 1);
        C.dead("min()", () -> q.min());
        C.dead("sync()", () -> q.sync());
        q.cut();
        q.spoil(2, 0, 5);
        C.due("it can be spoiled", q.word(2, 0), 5);
        block(q, 1, 1, 0);
        recoverDue("epoch 1", q, 0);
        q.format(BLOCKS, WORDS, 5, 5);
        C.due("format() makes it live", q.about(6), 0);
    }

    /** 198 blocks, from the last one to block 2, all of them full: no greater run can be. */
    private static void theLongestRun() {
        int all = 198 * FULL;
        int[] counts = {all - FULL, all - FULL + 1, all - 1, all, all + 1};
        for (int count : counts) {
            SpillQueue q = Make.formatted(200, WORDS, 1, 2);
            q.cut();
            for (int block = 2; block < 200; block++) {
                int next = block == 2 ? 0 : block - 1;
                q.spoil(block, 1, next);
                q.spoil(block, 0, 7 + 3 * next);
            }
            Make.forgeBlock(q, WORDS, 0, 2, 1, 199, 0, count, 0);
            // Where it is not good, the one of epoch 1, which format() wrote, stands in.
            boolean good = count > all - FULL && count <= all;
            C.due(count + " keys: recover()", q.recover(), good ? count : 0);
            C.due(count + " keys: epoch", q.about(3), good ? 2 : 1);
            C.due(count + " keys: free", q.about(2), good ? 0 : 198);
            C.due(count + " keys: min()", q.min(), good ? 0 : -1);
            if (good) {
                C.runDue("the longest run", q, 0, 199, 0, count, 0, 198, 0);
            }
        }
    }

    private static void mostRunsAreGood() {
        for (int words = 11; words <= 40; words++) {
            int most = (words - 3) / 4;
            int[] levels = new int[most];
            SpillQueue q = Make.ofLevels(C, 20, words, 1, 5, levels);
            C.due(words + " words: the last run", q.run(most - 1, 0), 2 + most - 1);
            q.cut();
            Make.forge(q, words, 1, 2, most + 1);
            C.due(words + " words: a run too many", q.recover(), NONE);
        }
    }

    /** Recovery looks: it writes nothing, and counts no write. */
    private static void recoveryWritesNothing() {
        SpillQueue q = twentyKeys();
        String disk = Look.atDisk(q, BLOCKS, WORDS);
        recoverDue("twenty keys", q, 20);
        C.same("the disk", Look.atDisk(q, BLOCKS, WORDS), disk);
        C.due("writes", q.about(5), 1);
        q.cut();
        q.spoil(0, 0, 1);
        recoverDue("none", q, NONE);
        q.spoil(0, 0, 1);
        C.same("the disk", Look.atDisk(q, BLOCKS, WORDS), disk);
        C.due("writes", q.about(5), 1);
    }
}
