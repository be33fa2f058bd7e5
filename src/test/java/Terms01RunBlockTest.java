/** The terms of the disk, of keys and memory, and of a run's block. */
public final class Terms01RunBlockTest {
    private static final Check C = new Check();

    public static void main(String[] args) {
        theDiskHasBlocksOfWords();
        aSmallerDiskHasNoBlockOfAGreaterOne();
        keysAreZeroOrMore();
        memoryHoldsMemKeys();
        aBlockHasUpToWordsLessTwoKeys();
        zerosAreBehindTheKeys();
        zerosAreKeysToo();
        theSum();
        theSumIsModuloTwoToThe32();
        C.end();
    }

    /** "THE DISK has BLOCKS 0, 1, .. of WORDS ints each." */
    private static void theDiskHasBlocksOfWords() {
        int[][] sizes = {{4, 11}, {4, 40}, {200, 11}, {200, 40}, {5, 12}};
        for (int[] size : sizes) {
            int blocks = size[0];
            int words = size[1];
            String disk = blocks + " blocks of " + words + " words: ";
            SpillQueue q = Make.formatted(blocks, words, 1, 2);
            C.due(disk + "the first word", q.word(0, 0), 0);
            C.due(disk + "the last word of block 0", q.word(0, words - 1), 0);
            C.due(disk + "the first word of the last block", q.word(blocks - 1, 0), 0);
            C.due(disk + "the last word", q.word(blocks - 1, words - 1), 0);
            C.badIndex(disk + "a block more", () -> q.word(blocks, 0));
            C.badIndex(disk + "a block less", () -> q.word(-1, 0));
            C.badIndex(disk + "a word more", () -> q.word(0, words));
            C.badIndex(disk + "a word less", () -> q.word(1, -1));
        }
    }

    private static void aSmallerDiskHasNoBlockOfAGreaterOne() {
        SpillQueue q = Make.formatted(200, 40, 1, 2);
        q.format(4, 11, 1, 2);
        C.due("the last word now", q.word(3, 10), 0);
        C.badIndex("block 4 is gone", () -> q.word(4, 0));
        C.badIndex("word 11 is gone", () -> q.word(3, 11));
        C.due("free", q.about(2), 2);
        q.format(200, 40, 1, 2);
        C.due("the last word again", q.word(199, 39), 0);
        C.due("free again", q.about(2), 198);
    }

    /** "KEYS are ints of 0 or more." */
    private static void keysAreZeroOrMore() {
        SpillQueue q = Make.formatted(6, 11, 4, 2);
        Make.insertAll(C, q, 0, 1, Integer.MAX_VALUE - 1, Integer.MAX_VALUE);
        int[] below = {-1, -2, Integer.MIN_VALUE, Integer.MIN_VALUE + 1};
        for (int key : below) {
            C.badArgument("insert(" + key + ")", () -> q.insert(key));
        }
        C.due("four keys", q.size(), 4);
        C.due("sync()", q.sync(), 0);
        C.due("recover()", q.recover(), 4);
        C.takesDue("all", q, 0, 1, Integer.MAX_VALUE - 1, Integer.MAX_VALUE, -1);
    }

    /** "MEMORY holds at most MEM of them." */
    private static void memoryHoldsMemKeys() {
        int[] sizes = {1, 2, 3, 99, 100};
        for (int mem : sizes) {
            SpillQueue q = Make.formatted(20, 11, mem, 2);
            Make.insertDown(C, q, 1, mem);
            C.aboutDue("mem " + mem + ", full", q, 0, mem, 18, 1, 2, 1, 0);
            Make.insertAll(C, q, 500);
            int blocks = (mem + 8) / 9;
            C.aboutDue("mem " + mem + ", a key more", q, 1, 1, 18 - blocks, 1, 2, 1 + blocks, 0);
            C.runDue("mem " + mem, q, 0, 2, 0, mem, 0, blocks, 1);
        }
    }

    /**
     * "the number of the run's next block (word 1; 0 for the last one), and up to WORDS - 2 keys
     * (words 2 ..; zeros behind them). All but the last block of a run are full."
     */
    private static void aBlockHasUpToWordsLessTwoKeys() {
        int[] sizes = {11, 12, 39, 40};
        for (int words : sizes) {
            int full = words - 2;
            int[] counts = {1, 2, full - 1, full, full + 1, 2 * full - 1, 2 * full, 2 * full + 1, 100};
            for (int count : counts) {
                aRunOf(count, words);
            }
        }
    }

    private static void aRunOf(int count, int words) {
        String when = count + " keys, " + words + " words";
        SpillQueue q = Make.formatted(20, words, 100, 2);
        Make.insertDown(C, q, 1001, 1000 + count);
        C.due(when + ": sync()", q.sync(), 0);
        int full = words - 2;
        int blocks = count / full + (count % full > 0 ? 1 : 0);
        C.runDue(when, q, 0, 2, 0, count, 0, blocks, 1001);
        for (int n = 0; n < blocks; n++) {
            int here = Math.min(full, count - n * full);
            int[] due = new int[1 + here];
            due[0] = n < blocks - 1 ? 2 + n + 1 : 0;
            for (int k = 0; k < here; k++) {
                due[1 + k] = 1001 + n * full + k;
            }
            C.wholeBlockDue(when, q, words, 2 + n, due);
        }
        C.due(when + ": the block behind it", q.word(2 + blocks, 0), 0);
        C.due(when + ": free", q.about(2), 18 - blocks);
        C.due(when + ": writes", q.about(5), 2 + blocks);
    }

    /** "zeros behind them": also in a block that had more keys, and a next block, before. */
    private static void zerosAreBehindTheKeys() {
        SpillQueue q = Make.formatted(6, 11, 10, 2);
        Make.insertDown(C, q, 1, 10);
        Make.insertAll(C, q, 50);
        C.wholeBlockDue("a full block", q, 11, 2, 3, 1, 2, 3, 4, 5, 6, 7, 8, 9);
        C.wholeBlockDue("the last block", q, 11, 3, 0, 10);
        C.takesDue("the run goes", q, 1, 2, 3, 4, 5, 6, 7, 8, 9, 10);
        C.wholeBlockDue("what was taken is still on the disk", q, 11, 2, 3, 1, 2, 3, 4, 5, 6, 7, 8, 9);
        C.due("sync()", q.sync(), 0);
        C.wholeBlockDue("one key where ten were", q, 11, 2, 0, 50);
        C.wholeBlockDue("this one is not written", q, 11, 3, 0, 10);
    }

    private static void zerosAreKeysToo() {
        SpillQueue q = Make.formatted(6, 11, 10, 2);
        Make.insertAll(C, q, 0, 0, 0, 0, 0, 0, 0, 0, 0, 0);
        C.due("sync()", q.sync(), 0);
        C.runDue("ten zeros", q, 0, 2, 0, 10, 0, 2, 0);
        C.wholeBlockDue("nine zeros", q, 11, 2, 3);
        C.wholeBlockDue("one zero", q, 11, 3);
        C.due("recover()", q.recover(), 10);
        C.takesDue("ten zeros", q, 0, 0, 0, 0, 0, 0, 0, 0, 0, 0, -1);
    }

    private static int sumOfARunOf(int words, int... keys) {
        SpillQueue q = Make.formatted(6, words, 100, 2);
        Make.insertAll(C, q, keys);
        C.due("sync()", q.sync(), 0);
        return q.word(2, 0);
    }

    /** "The SUM of a block is .. that of its words w(i) .. each times 2 i + 1, and 7." */
    private static void theSum() {
        C.due("0", sumOfARunOf(11, 0), 7);
        C.due("1 in word 2", sumOfARunOf(11, 1), 7 + 5);
        C.due("0 and 1: 1 in word 3", sumOfARunOf(11, 0, 1), 7 + 7);
        C.due("1 in word 10, the last one", sumOfARunOf(11, 0, 0, 0, 0, 0, 0, 0, 0, 1), 7 + 21);
        C.due("next block 3 in word 1", sumOfARunOf(11, 0, 0, 0, 0, 0, 0, 0, 0, 0, 0), 7 + 9);
        int[] last = new int[38];
        last[0] = 1;
        C.due("1 in word 39, the last one", sumOfARunOf(40, last), 7 + 79);
    }

    /** "modulo 2^32" */
    private static void theSumIsModuloTwoToThe32() {
        C.due("5 (2^31 - 1) + 7", sumOfARunOf(11, Integer.MAX_VALUE), Integer.MIN_VALUE + 2);
        C.due("12 (2^31 - 1) + 7", sumOfARunOf(11, Integer.MAX_VALUE, Integer.MAX_VALUE), -5);
        C.due("just below 2^31", sumOfARunOf(11, 429496728), Integer.MAX_VALUE);
        C.due("just above 2^31", sumOfARunOf(11, 3, 306783376), Integer.MIN_VALUE + 6);
        C.due("just below 2^32", sumOfARunOf(11, 858993457), -4);
        C.due("just above 2^32", sumOfARunOf(11, 858993458), 1);
    }
}
