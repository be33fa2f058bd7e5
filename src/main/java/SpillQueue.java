import java.util.Arrays;

/**
 * A queue of keys on a disk of blocks: the least key comes first; few keys are in memory, the
 * others in sorted runs on the disk. What was synced outlives a cut of power at any write.
 *
 * <p>All rows are made once, with the object, and used again: no call makes anything but the
 * exception that it throws.
 */
public final class SpillQueue {
    private static final int MIN_BLOCKS = 4;
    private static final int MAX_BLOCKS = 200;
    private static final int MIN_WORDS = 11;
    private static final int MAX_WORDS = 40;
    private static final int MIN_MEM = 1;
    private static final int MAX_MEM = 100;
    private static final int MIN_FAN = 2;
    private static final int MAX_FAN = 5;
    private static final int MAX_CUT = 10000;

    /** Blocks 0 and 1; so a number below this is never that of a run's block. */
    private static final int SUPERBLOCKS = 2;

    /** Of every block: the word of its sum. */
    private static final int SUM = 0;

    /** Of a run's block: the word of the next block's number, and where the keys begin. */
    private static final int NEXT = 1;
    private static final int KEYS = 2;

    /** Of a superblock: the words of the epoch and of the number of runs, and where these begin. */
    private static final int EPOCH = 1;
    private static final int RUNS = 2;
    private static final int TABLE = 3;

    /** How many words a run has in a superblock, and which word is what there (and in run()). */
    private static final int RUN_WORDS = 4;
    private static final int FIRST = 0;
    private static final int BEGIN = 1;
    private static final int COUNT = 2;
    private static final int LEVEL = 3;

    /** What run() tells beside those four. */
    private static final int BLOCKS_OF_RUN = 4;
    private static final int LEAST_KEY = 5;

    private static final int MAX_RUNS = (MAX_WORDS - TABLE) / RUN_WORDS;

    private static final int DONE = 0;
    private static final int NO_KEY = -1;
    private static final int NO_SPILL = -2;
    private static final int NONE_GOOD = -3;
    private static final int POWER_CUT = -9;

    private final Disk disk = new Disk();
    private final Memory memory = new Memory();
    private final Runs runs = new Runs(disk);
    private final Superblocks superblocks = new Superblocks(disk);

    /** The blocks of what was synced, as it had them then. */
    private final BlockSet synced = new BlockSet();
    private final BlockSet used = new BlockSet();
    private final int[] free = new int[MAX_BLOCKS];

    private int fan;
    private int epoch;
    private boolean live;

    /** No disk; dead. */
    public SpillQueue() {
    }

    /** A new disk of zeros with an empty queue, which is synced. */
    public void format(int blocks, int words, int mem, int fan) throws IllegalArgumentException {
        if (blocks < MIN_BLOCKS || blocks > MAX_BLOCKS) {
            throw new IllegalArgumentException("blocks are 4 .. 200");
        }
        if (words < MIN_WORDS || words > MAX_WORDS) {
            throw new IllegalArgumentException("words are 11 .. 40");
        }
        if (mem < MIN_MEM || mem > MAX_MEM) {
            throw new IllegalArgumentException("mem is 1 .. 100");
        }
        if (fan < MIN_FAN || fan > MAX_FAN) {
            throw new IllegalArgumentException("fan is 2 .. 5");
        }
        powerOff();
        disk.renew(blocks, words);
        memory.most = mem;
        this.fan = fan;
        live = true;
        writeNextEpoch();
    }

    /** A key comes: 0; -2 when there is no room for it; -9 when power is cut meanwhile. */
    public int insert(int key) throws IllegalStateException, IllegalArgumentException {
        requireLive();
        if (key < 0) {
            throw new IllegalArgumentException("a key is 0 or more");
        }
        if (memory.isFull()) {
            int spilled = spill();
            if (spilled != DONE) {
                return spilled;
            }
        }
        memory.add(key);
        return DONE;
    }

    /** The least key; -1 when there is none. */
    public int min() throws IllegalStateException {
        requireLive();
        int at = runs.leastAt(false);
        return isLeastInMemory(at) ? memory.least() : runs.headOf(at);
    }

    /** The least key is taken; -1 when there is none. */
    public int take() throws IllegalStateException {
        requireLive();
        int at = runs.leastAt(false);
        if (isLeastInMemory(at)) {
            return memory.takeLeast();
        }
        int key = runs.takeFrom(at);
        runs.dropEmpty();
        return key;
    }

    /** All keys are synced: 0; -2 when there is no room for it; -9 when power is cut meanwhile. */
    public int sync() throws IllegalStateException {
        requireLive();
        if (memory.howMany() > 0) {
            int spilled = spill();
            if (spilled != DONE) {
                return spilled;
            }
        }
        return writeNextEpoch();
    }

    /** Power is cut at the n-th write from now on; 0: it is not. */
    public void cutAt(int n) throws IllegalStateException, IllegalArgumentException {
        requireLive();
        if (n < 0 || n > MAX_CUT) {
            throw new IllegalArgumentException("n is 0 .. 10000");
        }
        disk.cutIn = n;
    }

    /** Power is off now. */
    public void cut() throws IllegalStateException {
        requireDisk();
        powerOff();
    }

    /** What was synced is there again: how many keys it has; -3 when no superblock is good. */
    public int recover() throws IllegalStateException {
        requireDisk();
        powerOff();
        int block = superblocks.newestGood();
        if (block < 0) {
            return NONE_GOOD;
        }
        superblocks.load(block, runs);
        epoch = superblocks.epochOf(block);
        runs.markBlocks(synced);
        live = true;
        return runs.keysInAll();
    }

    /** How many keys there are; 0 when it is dead. */
    public int size() {
        return live ? memory.howMany() + runs.keysInAll() : 0;
    }

    /** What is known of run i. */
    public int run(int i, int what) throws IllegalStateException, IndexOutOfBoundsException {
        requireLive();
        if (!runs.has(i)) {
            throw new IndexOutOfBoundsException("no such run");
        }
        switch (what) {
            case FIRST:
                return runs.first[i];
            case BEGIN:
                return runs.begin[i];
            case COUNT:
                return runs.count[i];
            case LEVEL:
                return runs.level[i];
            case BLOCKS_OF_RUN:
                return disk.blocksFor(runs.begin[i] + runs.count[i]);
            case LEAST_KEY:
                return runs.headOf(i);
            default:
                throw new IndexOutOfBoundsException("what is 0 .. 5");
        }
    }

    /** What is known of the whole queue. */
    public int about(int what) throws IndexOutOfBoundsException {
        switch (what) {
            case 0:
                return live ? runs.number : 0;
            case 1:
                return live ? memory.howMany() : 0;
            case 2:
                return live ? gatherFree() : 0;
            case 3:
                return live ? epoch : 0;
            case 4:
                return live ? disk.mostRuns() : 0;
            case 5:
                return disk.writes;
            case 6:
                return live ? 0 : 1;
            default:
                throw new IndexOutOfBoundsException("what is 0 .. 6");
        }
    }

    /** Word i of a block of the disk. */
    public int word(int block, int i) throws IndexOutOfBoundsException {
        requireWord(block, i);
        return disk.get(block, i);
    }

    /** The bits of x are turned over in word i of a block. */
    public void spoil(int block, int i, int x)
            throws IllegalStateException, IndexOutOfBoundsException {
        if (live) {
            throw new IllegalStateException("the queue is not dead");
        }
        requireWord(block, i);
        disk.turnOver(block, i, x);
    }

    private void requireLive() {
        if (!live) {
            throw new IllegalStateException("the queue is dead");
        }
    }

    private void requireDisk() {
        if (disk.blocks == 0) {
            throw new IllegalStateException("there is no disk");
        }
    }

    private void requireWord(int block, int i) {
        if (!disk.has(block, i)) {
            throw new IndexOutOfBoundsException("no such word");
        }
    }

    private void powerOff() {
        live = false;
        epoch = 0;
        memory.clear();
        runs.clear();
        synced.clear();
        disk.cutIn = 0;
    }

    /** At is the run that has the least key of all runs. Memory goes first where both have it. */
    private boolean isLeastInMemory(int at) {
        return memory.howMany() > 0 && (at < 0 || memory.least() <= runs.headOf(at));
    }

    private int spill() {
        if (runs.number >= disk.mostRuns()) {
            runs.chooseAll();
            int merged = makeRun(runs, runs.greatestLevel() + 1);
            if (merged != DONE) {
                return merged;
            }
        }
        int made = makeRun(memory, 0);
        return made == DONE ? mergeCrowdedLevels() : made;
    }

    /** The spill is done by now: that a merge finds no room only ends the merging. */
    private int mergeCrowdedLevels() {
        // Every merge leaves at least one run less, so there are never more rounds than runs.
        for (int round = 0; round < MAX_RUNS; round++) {
            int at = runs.crowdedAt(fan);
            if (at < 0) {
                return DONE;
            }
            int level = runs.level[at];
            runs.chooseLevel(level);
            int merged = makeRun(runs, level + 1);
            if (merged != DONE) {
                return merged == NO_SPILL ? DONE : merged;
            }
        }
        return DONE;
    }

    /**
     * Makes a run of all those keys, which are taken from where they are. That is safe: the blocks
     * to write are chosen before the first key is taken, and a cut of power loses the rest anyhow.
     */
    private int makeRun(Keys keys, int level) {
        int count = keys.howMany();
        int needed = disk.blocksFor(count);
        if (needed < 1 || gatherFree() < needed) {
            return NO_SPILL;
        }
        int perBlock = disk.keysPerBlock();
        for (int n = 0; n < needed; n++) {
            disk.clearRow();
            disk.setRow(NEXT, n + 1 < needed ? free[n + 1] : 0);
            int here = Math.min(perBlock, count - n * perBlock);
            for (int k = 0; k < here; k++) {
                disk.setRow(KEYS + k, keys.takeLeast());
            }
            if (!disk.writeRow(free[n])) {
                powerOff();
                return POWER_CUT;
            }
        }
        runs.dropEmpty();
        runs.add(free[0], 0, count, level);
        return DONE;
    }

    /** Lists the free blocks, the least number first, and answers how many there are. */
    private int gatherFree() {
        used.copyOf(synced);
        runs.markBlocks(used);
        int found = 0;
        for (int block = SUPERBLOCKS; block < disk.blocks && found < free.length; block++) {
            if (!used.has(block)) {
                free[found] = block;
                found++;
            }
        }
        return found;
    }

    private int writeNextEpoch() {
        epoch++;
        if (!superblocks.store(epoch, runs)) {
            powerOff();
            return POWER_CUT;
        }
        synced.clear();
        runs.markBlocks(synced);
        return DONE;
    }

    /** The blocks with their words, and the writes that power may be cut at. */
    private static final class Disk {
        private final int[] cells = new int[MAX_BLOCKS * MAX_WORDS];

        /** The block that is to be written next. */
        private final int[] row = new int[MAX_WORDS];

        /** 0: there is no disk. */
        private int blocks;
        private int words;
        private int writes;

        /** The write from now on that does not happen; 0: none. */
        private int cutIn;

        private void renew(int newBlocks, int newWords) {
            blocks = newBlocks;
            words = newWords;
            writes = 0;
            cutIn = 0;
            Arrays.fill(cells, 0);
        }

        private boolean has(int block, int i) {
            return block >= 0 && block < blocks && i >= 0 && i < words;
        }

        /** 0 where there is no word. It does not ask has(), so that calls stay within rule 11. */
        private int get(int block, int i) {
            if (block < 0 || block >= blocks || i < 0 || i >= words) {
                return 0;
            }
            return cells[block * words + i];
        }

        private void turnOver(int block, int i, int x) {
            if (has(block, i)) {
                cells[block * words + i] ^= x;
            }
        }

        private int keysPerBlock() {
            return words - KEYS;
        }

        private int mostRuns() {
            return (words - TABLE) / RUN_WORDS;
        }

        private int blocksFor(int keys) {
            int perBlock = keysPerBlock();
            return perBlock > 0 ? (keys + perBlock - 1) / perBlock : 0;
        }

        private void clearRow() {
            Arrays.fill(row, 0);
        }

        private void setRow(int i, int x) {
            if (i >= 0 && i < row.length) {
                row[i] = x;
            }
        }

        /** False when power is cut at this write: then it has not happened. */
        private boolean writeRow(int block) {
            if (cutIn > 0) {
                cutIn--;
                if (cutIn == 0) {
                    return false;
                }
            }
            if (block >= 0 && block < blocks) {
                System.arraycopy(row, 0, cells, block * words, words);
                cells[block * words + SUM] = sumOf(block);
                writes++;
            }
            return true;
        }

        /** The sum that the block should have. */
        private int sumOf(int block) {
            int sum = 7;
            if (block >= 0 && block < blocks) {
                int start = block * words;
                for (int i = SUM + 1; i < words; i++) {
                    sum += cells[start + i] * (2 * i + 1);
                }
            }
            return sum;
        }
    }

    private static final class BlockSet {
        private final boolean[] in = new boolean[MAX_BLOCKS];

        private void clear() {
            for (int block = 0; block < in.length; block++) {
                in[block] = false;
            }
        }

        private void copyOf(BlockSet other) {
            for (int block = 0; block < in.length; block++) {
                in[block] = other.has(block);
            }
        }

        private void add(int block) {
            if (block >= 0 && block < in.length) {
                in[block] = true;
            }
        }

        private boolean has(int block) {
            return block >= 0 && block < in.length && in[block];
        }
    }

    /** Keys that a run can be made of. */
    private abstract static class Keys {
        abstract int howMany();

        abstract int takeLeast();
    }

    private static final class Memory extends Keys {
        /** The greatest first, so that the least goes without moving the others. */
        private final int[] keys = new int[MAX_MEM];
        private int count;
        private int most;

        private void clear() {
            count = 0;
        }

        private boolean isFull() {
            return count >= most;
        }

        private void add(int key) {
            if (count >= keys.length) {
                return;
            }
            int at = count;
            while (at > 0 && keys[at - 1] < key) {
                keys[at] = keys[at - 1];
                at--;
            }
            keys[at] = key;
            count++;
        }

        private int least() {
            return count > 0 ? keys[count - 1] : NO_KEY;
        }

        int howMany() {
            return count;
        }

        int takeLeast() {
            int key = least();
            if (count > 0) {
                count--;
            }
            return key;
        }
    }

    /** The runs, in the order in which they were made. As Keys: those chosen to be merged. */
    private static final class Runs extends Keys {
        private final Disk disk;
        private final int[] first = new int[MAX_RUNS];
        private final int[] begin = new int[MAX_RUNS];
        private final int[] count = new int[MAX_RUNS];
        private final int[] level = new int[MAX_RUNS];

        /** Each run's least key, kept here so that a merge need not look for it on the disk. */
        private final int[] head = new int[MAX_RUNS];
        private final boolean[] chosen = new boolean[MAX_RUNS];
        private int number;

        private Runs(Disk disk) {
            this.disk = disk;
        }

        private void clear() {
            number = 0;
        }

        private boolean has(int i) {
            return i >= 0 && i < number;
        }

        private void add(int itsFirst, int itsBegin, int itsCount, int itsLevel) {
            if (number >= MAX_RUNS) {
                return;
            }
            first[number] = itsFirst;
            begin[number] = itsBegin;
            count[number] = itsCount;
            level[number] = itsLevel;
            head[number] = disk.get(itsFirst, KEYS + itsBegin);
            number++;
        }

        private void dropEmpty() {
            int kept = 0;
            for (int i = 0; i < number; i++) {
                if (count[i] > 0) {
                    first[kept] = first[i];
                    begin[kept] = begin[i];
                    count[kept] = count[i];
                    level[kept] = level[i];
                    head[kept] = head[i];
                    kept++;
                }
            }
            number = kept;
        }

        private int headOf(int i) {
            return has(i) ? head[i] : NO_KEY;
        }

        /** The first run that has the least key of all, or of the chosen ones; -1: no such key. */
        private int leastAt(boolean ofChosen) {
            int at = -1;
            for (int i = 0; i < number; i++) {
                boolean counts = count[i] > 0 && (chosen[i] || !ofChosen);
                if (counts && (at < 0 || head[i] < head[at])) {
                    at = i;
                }
            }
            return at;
        }

        /** The run's least key; a run that has none left then stays until dropEmpty(). */
        private int takeFrom(int i) {
            if (!has(i)) {
                return NO_KEY;
            }
            int key = head[i];
            begin[i]++;
            count[i]--;
            if (count[i] > 0 && begin[i] >= disk.keysPerBlock()) {
                first[i] = disk.get(first[i], NEXT);
                begin[i] = 0;
            }
            head[i] = disk.get(first[i], KEYS + begin[i]);
            return key;
        }

        private int keysInAll() {
            int keys = 0;
            for (int i = 0; i < number; i++) {
                keys += count[i];
            }
            return keys;
        }

        private void markBlocks(BlockSet set) {
            for (int i = 0; i < number; i++) {
                int block = first[i];
                for (int n = 0; n < MAX_BLOCKS && block >= SUPERBLOCKS; n++) {
                    set.add(block);
                    block = disk.get(block, NEXT);
                }
            }
        }

        private int greatestLevel() {
            int greatest = level[0];
            for (int i = 1; i < number; i++) {
                greatest = Math.max(greatest, level[i]);
            }
            return greatest;
        }

        /** A run of the least level that has so many runs or more; -1: there is no such level. */
        private int crowdedAt(int fan) {
            int at = -1;
            for (int i = 0; i < number; i++) {
                if (runsAtLevelOf(i) >= fan && (at < 0 || level[i] < level[at])) {
                    at = i;
                }
            }
            return at;
        }

        private int runsAtLevelOf(int i) {
            int found = 0;
            for (int other = 0; other < number; other++) {
                if (level[other] == level[i]) {
                    found++;
                }
            }
            return found;
        }

        private void chooseAll() {
            for (int i = 0; i < number; i++) {
                chosen[i] = true;
            }
        }

        private void chooseLevel(int wanted) {
            for (int i = 0; i < number; i++) {
                chosen[i] = level[i] == wanted;
            }
        }

        int howMany() {
            int keys = 0;
            for (int i = 0; i < number; i++) {
                keys += chosen[i] ? count[i] : 0;
            }
            return keys;
        }

        int takeLeast() {
            return takeFrom(leastAt(true));
        }
    }

    /** The two superblocks: how the runs get there and back, and which of them is good. */
    private static final class Superblocks {
        private final Disk disk;

        /** The blocks that the superblock looked at has in its runs. */
        private final BlockSet seen = new BlockSet();

        private Superblocks(Disk disk) {
            this.disk = disk;
        }

        /** False when power is cut at this write. */
        private boolean store(int epoch, Runs runs) {
            disk.clearRow();
            disk.setRow(EPOCH, epoch);
            disk.setRow(RUNS, runs.number);
            for (int i = 0; i < runs.number; i++) {
                int at = TABLE + i * RUN_WORDS;
                disk.setRow(at + FIRST, runs.first[i]);
                disk.setRow(at + BEGIN, runs.begin[i]);
                disk.setRow(at + COUNT, runs.count[i]);
                disk.setRow(at + LEVEL, runs.level[i]);
            }
            return disk.writeRow(epoch & 1);
        }

        private void load(int block, Runs runs) {
            int number = Math.min(disk.get(block, RUNS), MAX_RUNS);
            for (int i = 0; i < number; i++) {
                int at = TABLE + i * RUN_WORDS;
                runs.add(disk.get(block, at + FIRST), disk.get(block, at + BEGIN),
                        disk.get(block, at + COUNT), disk.get(block, at + LEVEL));
            }
        }

        private int epochOf(int block) {
            return disk.get(block, EPOCH);
        }

        /** The good one with the greater epoch; -1: none is good. */
        private int newestGood() {
            boolean zero = isGood(0);
            boolean one = isGood(1);
            if (zero && one) {
                return epochOf(0) > epochOf(1) ? 0 : 1;
            }
            if (zero) {
                return 0;
            }
            return one ? 1 : -1;
        }

        private boolean isGood(int block) {
            int epoch = epochOf(block);
            if (epoch < 1 || (epoch & 1) != block || disk.get(block, SUM) != disk.sumOf(block)) {
                return false;
            }
            int number = disk.get(block, RUNS);
            if (number < 0 || number > disk.mostRuns()) {
                return false;
            }
            seen.clear();
            for (int i = 0; i < number; i++) {
                if (!isRunRight(block, TABLE + i * RUN_WORDS)) {
                    return false;
                }
            }
            return true;
        }

        private boolean isRunRight(int block, int at) {
            int begin = disk.get(block, at + BEGIN);
            int count = disk.get(block, at + COUNT);
            int perBlock = disk.keysPerBlock();
            if (disk.get(block, at + LEVEL) < 0 || begin < 0 || begin >= perBlock) {
                return false;
            }
            // More keys than the disk can hold are refused first: begin + count must not overflow.
            if (count < 1 || count > disk.blocks * perBlock) {
                return false;
            }
            return isChainRight(disk.get(block, at + FIRST), begin, begin + count);
        }

        /** Looks at the keys begin .. end - 1, counted from the start of the first block. */
        private boolean isChainRight(int first, int begin, int end) {
            int perBlock = disk.keysPerBlock();
            int needed = disk.blocksFor(end);
            int block = first;
            int last = 0;
            for (int n = 0; n < needed; n++) {
                if (!isNewRightBlock(block)) {
                    return false;
                }
                int to = Math.min(perBlock, end - n * perBlock);
                last = lastOfRising(block, n == 0 ? begin : 0, to, last);
                if (last < 0) {
                    return false;
                }
                block = disk.get(block, NEXT);
            }
            return block == 0;
        }

        private boolean isNewRightBlock(int block) {
            if (block < SUPERBLOCKS || block >= disk.blocks || seen.has(block)) {
                return false;
            }
            seen.add(block);
            return disk.get(block, SUM) == disk.sumOf(block);
        }

        /** The last of the block's keys from .. to - 1; -1 when one is less than that before it. */
        private int lastOfRising(int block, int from, int to, int before) {
            int last = before;
            for (int i = from; i < to; i++) {
                int key = disk.get(block, KEYS + i);
                if (key < last) {
                    return -1;
                }
                last = key;
            }
            return last;
        }
    }
}
