/** Queues in the states that several tests begin with. */
final class Make {
    private Make() {
    }

    static SpillQueue formatted(int blocks, int words, int mem, int fan) {
        SpillQueue q = new SpillQueue();
        q.format(blocks, words, mem, fan);
        return q;
    }

    static void insertAll(Check c, SpillQueue q, int... keys) {
        for (int key : keys) {
            c.due("insert(" + key + ")", q.insert(key), 0);
        }
    }

    /** The keys from .. to, each of them once, the greatest first. */
    static void insertDown(Check c, SpillQueue q, int from, int to) {
        for (int key = to; key >= from; key--) {
            insertAll(c, q, key);
        }
    }

    /** The sum that a block of these words should have, counted without a wrap-around. */
    static int sumOf(int[] block) {
        long sum = 7;
        for (int i = 1; i < block.length; i++) {
            sum += (long) block[i] * (2 * i + 1);
        }
        return (int) Math.floorMod(sum, 1L << 32);
    }

    /** Dead must be the queue. The word gets a value; the sum of its block is left as it is. */
    static void put(SpillQueue q, int block, int i, int value) {
        q.spoil(block, i, q.word(block, i) ^ value);
    }

    /** Dead must be the queue. The word gets a value, and its block the sum that is right then. */
    static void forge(SpillQueue q, int words, int block, int i, int value) {
        put(q, block, i, value);
        int[] content = new int[words];
        for (int k = 1; k < words; k++) {
            content[k] = q.word(block, k);
        }
        put(q, block, 0, sumOf(content));
    }

    /** Dead must be the queue. The block gets these words from word 1 on, zeros, and its sum. */
    static void forgeBlock(SpillQueue q, int words, int block, int... fromWordOne) {
        int[] content = new int[words];
        System.arraycopy(fromWordOne, 0, content, 1, fromWordOne.length);
        content[0] = sumOf(content);
        for (int i = 0; i < words; i++) {
            put(q, block, i, content[i]);
        }
    }

    /**
     * A queue of runs of one key each: run i is in block i + 2, with the key 100 + i and that
     * level; all of them are synced, as epoch 1. Their levels would not come so by themselves.
     */
    static SpillQueue ofLevels(Check c, int blocks, int words, int mem, int fan, int... levels) {
        SpillQueue q = formatted(blocks, words, mem, fan);
        q.cut();
        int[] superblock = new int[2 + 4 * levels.length];
        superblock[0] = 1;
        superblock[1] = levels.length;
        for (int i = 0; i < levels.length; i++) {
            int[] run = {2 + i, 0, 1, levels[i]};
            System.arraycopy(run, 0, superblock, 2 + 4 * i, 4);
            q.spoil(2 + i, 2, 100 + i);
            q.spoil(2 + i, 0, 7 + 5 * (100 + i));
        }
        forgeBlock(q, words, 1, superblock);
        c.due("recover()", q.recover(), levels.length);
        c.due("runs", q.about(0), levels.length);
        return q;
    }
}
