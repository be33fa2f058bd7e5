/** Queues in the states that several tests begin with. */
final class Make {
    private Make() {
    }

    static SpillQueue formatted(int blocks, int words, int mem, int fan) {
        SpillQueue q = new SpillQueue();
        q.format(blocks, words, mem, fan);
        return q;
    }

    static void insertAll(Check c, SpillQueue q, int... keys) {
        for (int key : keys) {
            c.due("insert(" + key + ")", q.insert(key), 0);
        }
    }

    /** Dead must be the queue. The word gets a value, and its block the sum that is right then. */
    static void forge(SpillQueue q, int words, int block, int i, int value) {
        q.spoil(block, i, q.word(block, i) ^ value);
        int sum = 7;
        for (int k = 1; k < words; k++) {
            sum += q.word(block, k) * (2 * k + 1);
        }
        q.spoil(block, 0, q.word(block, 0) ^ sum);
    }
}
