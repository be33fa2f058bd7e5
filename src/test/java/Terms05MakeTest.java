/** The terms of a write, and of how a run is made. */
public final class Terms05MakeTest {
    private static final Check C = new Check();
    private static final int WORDS = 11;
    private static final int FULL = WORDS - 2;

    public static void main(String[] args) {
        asManyBlocksAsItNeedsAreFree();
        oneBlockTooFew();
        noBlockAtAll();
        nothingIsWrittenWhenItCannotBeMade();
        theLeastNumbersInThisOrder();
        writtenFromTheFirstToTheLast();
        aWriteIsOfOneWholeBlock();
        C.end();
    }

    /** "it needs as many blocks as n keys have": just as many are free. */
    private static void asManyBlocksAsItNeedsAreFree() {
        int[] counts = {FULL, FULL + 1, 2 * FULL, 2 * FULL + 1, 11 * FULL, 11 * FULL + 1};
        for (int count : counts) {
            int needed = (count + FULL - 1) / FULL;
            // A disk has two free blocks at least.
            int spare = Math.max(0, 2 - needed);
            SpillQueue q = Make.formatted(2 + needed + spare, WORDS, count, 5);
            Make.insertDown(C, q, 1, count);
            C.due(count + " keys: insert()", q.insert(9999), 0);
            C.runDue(count + " keys", q, 0, 2, 0, count, 0, needed, 1);
            C.aboutDue(count + " keys", q, 1, 1, spare, 1, 2, 1 + needed, 0);
        }
    }

    /** "if there are not so many, it can't be made" */
    private static void oneBlockTooFew() {
        int[] counts = {2 * FULL + 1, 3 * FULL, 3 * FULL + 1, 11 * FULL + 1};
        for (int count : counts) {
            int needed = (count + FULL - 1) / FULL;
            SpillQueue q = Make.formatted(2 + needed - 1, WORDS, count, 5);
            Make.insertDown(C, q, 1, count);
            C.due(count + " keys: insert()", q.insert(0), -2);
            C.due(count + " keys: sync()", q.sync(), -2);
            C.aboutDue(count + " keys", q, 0, count, needed - 1, 1, 2, 1, 0);
            C.takesDue("a key less", q, 1);
            boolean fits = (count - 1) % FULL == 0;
            C.due(count - 1 + " keys: sync()", q.sync(), fits ? 0 : -2);
        }
    }

    private static void noBlockAtAll() {
        SpillQueue q = Make.formatted(4, 19, 2 * 17, 5);
        Make.insertDown(C, q, 1, 2 * 17);
        C.due("both blocks", q.insert(100), 0);
        C.due("none is free", q.about(2), 0);
        C.due("a run of one key", q.sync(), -2);
        for (int key = 1; key < 17; key++) {
            C.takesDue("key " + key, q, key);
        }
        C.due("none yet", q.sync(), -2);
        C.takesDue("key 17", q, 17);
        C.due("one is free", q.sync(), 0);
        C.runDue("in it", q, 1, 2, 0, 1, 0, 1, 100);
    }

    /** "it can't be made, and nothing is written": no word, no write, and no step to the cut. */
    private static void nothingIsWrittenWhenItCannotBeMade() {
        SpillQueue q = Make.formatted(4, WORDS, 2 * FULL + 1, 5);
        Make.insertDown(C, q, 1, 2 * FULL + 1);
        q.cutAt(1);
        String before = Look.at(q) + Look.atDisk(q, 4, WORDS);
        C.due("insert()", q.insert(0), -2);
        C.same("behind insert()", Look.at(q) + Look.atDisk(q, 4, WORDS), before);
        C.due("sync()", q.sync(), -2);
        C.same("behind sync()", Look.at(q) + Look.atDisk(q, 4, WORDS), before);
        C.takesDue("a key less", q, 1);
        C.due("now there is a first write", q.sync(), -9);
    }

    /** "those are the FREE blocks with the least numbers, in this order" */
    private static void theLeastNumbersInThisOrder() {
        int words = 19;
        int full = words - 2;
        SpillQueue q = Make.formatted(12, words, 100, 5);
        int[] keys = {10, 1, 11, 2};
        for (int key : keys) {
            Make.insertAll(C, q, key);
            C.due("sync()", q.sync(), 0);
        }
        C.takesDue("blocks 3 and 5 go", q, 1, 2);
        C.due("sync()", q.sync(), 0);
        C.aboutDue("blocks 2 and 4 are left", q, 2, 0, 8);
        Make.insertDown(C, q, 101, 101 + 3 * full);
        C.due("sync()", q.sync(), 0);
        C.runDue("four blocks", q, 2, 3, 0, 3 * full + 1, 0, 4, 101);
        C.due("behind 3 comes 5", q.word(3, 1), 5);
        C.due("behind 5 comes 6", q.word(5, 1), 6);
        C.due("behind 6 comes 7", q.word(6, 1), 7);
        C.due("behind 7 comes none", q.word(7, 1), 0);
        C.due("the first key of 5", q.word(5, 2), 101 + full);
        C.due("the first key of 6", q.word(6, 2), 101 + 2 * full);
        C.wholeBlockDue("the last one", q, words, 7, 0, 101 + 3 * full);
        C.wholeBlockDue("block 2 is as it was", q, words, 2, 0, 10);
        C.wholeBlockDue("block 4 is as it was", q, words, 4, 0, 11);
    }

    /** "They are written from the first one to the last." */
    private static void writtenFromTheFirstToTheLast() {
        for (int n = 1; n <= 4; n++) {
            SpillQueue q = Make.formatted(8, WORDS, 3 * FULL, 5);
            Make.insertDown(C, q, 1, 3 * FULL);
            q.cutAt(n);
            String when = "cut at write " + n;
            C.due(when, q.insert(99), n <= 3 ? -9 : 0);
            C.due(when + ": writes", q.about(5), n);
            for (int block = 0; block < 3; block++) {
                boolean written = block + 1 < n;
                C.due(when + ": next of block " + (2 + block), q.word(2 + block, 1),
                        written && block < 2 ? 3 + block : 0);
                C.due(when + ": last key of block " + (2 + block), q.word(2 + block, WORDS - 1),
                        written ? (block + 1) * FULL : 0);
            }
        }
    }

    /** "A WRITE is of one whole block." */
    private static void aWriteIsOfOneWholeBlock() {
        SpillQueue q = Make.formatted(8, WORDS, 5, 5);
        q.cut();
        for (int i = 0; i < WORDS; i++) {
            q.spoil(0, i, 77);
            q.spoil(2, i, 77);
        }
        C.due("recover()", q.recover(), 0);
        Make.insertAll(C, q, 4, 3);
        C.due("sync()", q.sync(), 0);
        C.wholeBlockDue("every word of a run's block", q, WORDS, 2, 0, 3, 4);
        C.wholeBlockDue("every word of a superblock", q, WORDS, 0, 2, 1, 2, 0, 2, 0);
        C.due("two writes more", q.about(5), 3);
    }
}
