import java.util.ArrayList;
import java.util.Collections;
import java.util.HashSet;
import java.util.List;
import java.util.PriorityQueue;
import java.util.Set;

/**
 * The document written a second time, as plainly as the Java library lets it: each run has its keys
 * and its blocks at hand, and a cut of power is an exception.
 */
final class Model {
    private static final class PowerCut extends RuntimeException {
        private static final long serialVersionUID = 1;
    }

    private static final class Bad extends RuntimeException {
        private static final long serialVersionUID = 1;
    }

    private static final class Run {
        List<Integer> blocks = new ArrayList<>();
        List<Integer> keys = new ArrayList<>();
        int begin;
        int level;
    }

    private int[][] disk;
    private int words;
    private int mem;
    private int fan;
    private int writes;
    private boolean dead = true;
    private int cutIn;
    private int epoch;
    private PriorityQueue<Integer> memory = new PriorityQueue<>();
    private List<Run> runs = new ArrayList<>();
    private Set<Integer> synced = new HashSet<>();

    void format(int blocks, int words, int mem, int fan) {
        if (blocks < 4 || blocks > 200 || words < 11 || words > 40) {
            throw new IllegalArgumentException();
        }
        if (mem < 1 || mem > 100 || fan < 2 || fan > 5) {
            throw new IllegalArgumentException();
        }
        lose();
        disk = new int[blocks][words];
        this.words = words;
        this.mem = mem;
        this.fan = fan;
        writes = 0;
        dead = false;
        epoch = 1;
        writeSuperblock();
    }

    int insert(int key) {
        live();
        if (key < 0) {
            throw new IllegalArgumentException();
        }
        try {
            if (memory.size() == mem && !spill()) {
                return -2;
            }
        } catch (PowerCut e) {
            lose();
            return -9;
        }
        memory.add(key);
        return 0;
    }

    int min() {
        live();
        List<Integer> all = new ArrayList<>(memory);
        for (Run run : runs) {
            all.addAll(run.keys);
        }
        return all.isEmpty() ? -1 : Collections.min(all);
    }

    int take() {
        int least = min();
        if (least < 0 || memory.remove(least)) {
            return least;
        }
        for (Run run : runs) {
            if (run.keys.get(0) == least) {
                run.keys.remove(0);
                run.begin++;
                if (run.begin == words - 2) {
                    run.begin = 0;
                    run.blocks.remove(0);
                }
                if (run.keys.isEmpty()) {
                    runs.remove(run);
                }
                return least;
            }
        }
        throw new AssertionError("the model has lost a key");
    }

    int sync() {
        live();
        try {
            if (!memory.isEmpty() && !spill()) {
                return -2;
            }
            epoch++;
            writeSuperblock();
        } catch (PowerCut e) {
            lose();
            return -9;
        }
        return 0;
    }

    void cutAt(int n) {
        live();
        if (n < 0 || n > 10000) {
            throw new IllegalArgumentException();
        }
        cutIn = n;
    }

    void cut() {
        hasDisk();
        lose();
    }

    int recover() {
        hasDisk();
        lose();
        List<Run> best = null;
        for (int block = 0; block < 2; block++) {
            try {
                List<Run> read = readSuperblock(block);
                if (best == null || disk[block][1] > epoch) {
                    best = read;
                    epoch = disk[block][1];
                }
            } catch (Bad e) {
                continue;
            }
        }
        if (best == null) {
            return -3;
        }
        runs = best;
        dead = false;
        synced = blocksOfRuns();
        return size();
    }

    int size() {
        int size = memory.size();
        for (Run run : runs) {
            size += run.keys.size();
        }
        return size;
    }

    int run(int i, int what) {
        live();
        if (i < 0 || i >= runs.size() || what < 0 || what > 5) {
            throw new IndexOutOfBoundsException();
        }
        Run run = runs.get(i);
        int[] answers = {run.blocks.get(0), run.begin, run.keys.size(), run.level,
            run.blocks.size(), run.keys.get(0)};
        return answers[what];
    }

    int about(int what) {
        if (what < 0 || what > 6) {
            throw new IndexOutOfBoundsException();
        }
        if (what == 5) {
            return writes;
        }
        if (what == 6) {
            return dead ? 1 : 0;
        }
        if (dead) {
            return 0;
        }
        int[] answers = {runs.size(), memory.size(), freeBlocks().size(), epoch, most()};
        return answers[what];
    }

    int word(int block, int i) {
        hasWord(block, i);
        return disk[block][i];
    }

    void spoil(int block, int i, int x) {
        if (!dead) {
            throw new IllegalStateException();
        }
        hasWord(block, i);
        disk[block][i] ^= x;
    }

    private void live() {
        if (dead) {
            throw new IllegalStateException();
        }
    }

    private void hasDisk() {
        if (disk == null) {
            throw new IllegalStateException();
        }
    }

    private void hasWord(int block, int i) {
        if (disk == null || block < 0 || block >= disk.length || i < 0 || i >= words) {
            throw new IndexOutOfBoundsException();
        }
    }

    private void lose() {
        dead = true;
        cutIn = 0;
        epoch = 0;
        memory = new PriorityQueue<>();
        runs = new ArrayList<>();
        synced = new HashSet<>();
    }

    private int most() {
        return (words - 3) / 4;
    }

    private Set<Integer> blocksOfRuns() {
        Set<Integer> blocks = new HashSet<>();
        for (Run run : runs) {
            blocks.addAll(run.blocks);
        }
        return blocks;
    }

    private List<Integer> freeBlocks() {
        Set<Integer> inRuns = blocksOfRuns();
        List<Integer> free = new ArrayList<>();
        for (int block = 2; block < disk.length; block++) {
            if (!inRuns.contains(block) && !synced.contains(block)) {
                free.add(block);
            }
        }
        return free;
    }

    private int sum(int[] block) {
        long sum = 7;
        for (int i = 1; i < words; i++) {
            sum += (long) block[i] * (2 * i + 1);
        }
        return (int) sum;
    }

    private void write(int block, int[] content) {
        if (cutIn > 0 && --cutIn == 0) {
            throw new PowerCut();
        }
        content[0] = sum(content);
        disk[block] = content;
        writes++;
    }

    private void writeSuperblock() {
        int[] content = new int[words];
        content[1] = epoch;
        content[2] = runs.size();
        int at = 3;
        for (Run run : runs) {
            content[at++] = run.blocks.get(0);
            content[at++] = run.begin;
            content[at++] = run.keys.size();
            content[at++] = run.level;
        }
        write(epoch & 1, content);
        synced = blocksOfRuns();
    }

    private boolean make(List<Integer> keys, int level) {
        Run made = new Run();
        made.keys = new ArrayList<>(keys);
        Collections.sort(made.keys);
        made.level = level;
        List<Integer> free = freeBlocks();
        int needed = (keys.size() + words - 3) / (words - 2);
        if (free.size() < needed) {
            return false;
        }
        made.blocks = new ArrayList<>(free.subList(0, needed));
        for (int n = 0; n < needed; n++) {
            int[] content = new int[words];
            content[1] = n + 1 < needed ? made.blocks.get(n + 1) : 0;
            for (int k = 0; k < words - 2 && n * (words - 2) + k < made.keys.size(); k++) {
                content[2 + k] = made.keys.get(n * (words - 2) + k);
            }
            write(made.blocks.get(n), content);
        }
        runs.add(made);
        return true;
    }

    private boolean merge(List<Run> some, int level) {
        List<Integer> keys = new ArrayList<>();
        for (Run run : some) {
            keys.addAll(run.keys);
        }
        if (!make(keys, level)) {
            return false;
        }
        runs.removeAll(some);
        return true;
    }

    private boolean spill() {
        if (runs.size() == most()) {
            int greatest = Integer.MIN_VALUE;
            for (Run run : runs) {
                greatest = Math.max(greatest, run.level);
            }
            if (!merge(new ArrayList<>(runs), greatest + 1)) {
                return false;
            }
        }
        if (!make(new ArrayList<>(memory), 0)) {
            return false;
        }
        memory.clear();
        List<Run> crowd = leastCrowd();
        while (!crowd.isEmpty() && merge(crowd, crowd.get(0).level + 1)) {
            crowd = leastCrowd();
        }
        return true;
    }

    private List<Run> leastCrowd() {
        List<Run> best = new ArrayList<>();
        for (Run one : runs) {
            List<Run> same = new ArrayList<>();
            for (Run other : runs) {
                if (other.level == one.level) {
                    same.add(other);
                }
            }
            if (same.size() >= fan && (best.isEmpty() || one.level < best.get(0).level)) {
                best = same;
            }
        }
        return best;
    }

    private static void must(boolean right) {
        if (!right) {
            throw new Bad();
        }
    }

    private List<Run> readSuperblock(int block) {
        int[] content = disk[block];
        must(content[0] == sum(content));
        must(content[1] >= 1 && content[1] % 2 == block);
        must(content[2] >= 0 && content[2] <= most());
        Set<Integer> seen = new HashSet<>();
        List<Run> read = new ArrayList<>();
        for (int i = 0; i < content[2]; i++) {
            int at = 3 + 4 * i;
            read.add(readRun(content[at], content[at + 1], content[at + 2], content[at + 3], seen));
        }
        return read;
    }

    private Run readRun(int first, int begin, int count, int level, Set<Integer> seen) {
        must(level >= 0 && count >= 1 && begin >= 0 && begin <= words - 3);
        Run run = new Run();
        run.begin = begin;
        run.level = level;
        long needed = ((long) begin + count + words - 3) / (words - 2);
        List<Integer> laid = new ArrayList<>();
        int block = first;
        for (long n = 0; n < needed; n++) {
            must(block >= 2 && block < disk.length && seen.add(block));
            must(disk[block][0] == sum(disk[block]));
            run.blocks.add(block);
            for (int k = 2; k < words; k++) {
                laid.add(disk[block][k]);
            }
            block = disk[block][1];
        }
        must(block == 0);
        run.keys = new ArrayList<>(laid.subList(begin, begin + count));
        List<Integer> sorted = new ArrayList<>(run.keys);
        Collections.sort(sorted);
        must(sorted.equals(run.keys) && sorted.get(0) >= 0);
        return run;
    }
}
