import java.util.Arrays;
import java.util.PriorityQueue;

/** What the document says of the queue as a whole, before its terms. */
public final class Terms00WhatItIsTest {
    private static final Check C = new Check();
    private static final int CALLS = 512;

    public static void main(String[] args) {
        theLeastKeyComesFirst();
        keysThatComeInOrderAndBackwards();
        powerGoesOffAtAnyWrite();
        theLastOf512Calls();
        C.end();
    }

    /** "the least key comes first": whether it is in memory or in a run, old or new. */
    private static void theLeastKeyComesFirst() {
        int[][] sizes = {{200, 40, 1, 2}, {200, 40, 100, 5}, {60, 11, 3, 2}, {60, 11, 7, 5},
            {40, 23, 10, 3}, {200, 12, 2, 4}};
        int[] limits = {2, 50, Integer.MAX_VALUE};
        for (int[] size : sizes) {
            for (int limit : limits) {
                comeAndGo(size, limit);
            }
        }
    }

    /** Two keys come, one is taken, and all that are left then, up to the object's last call. */
    private static void comeAndGo(int[] size, int limit) {
        String name = Arrays.toString(size) + ", keys below " + limit;
        SpillQueue q = Make.formatted(size[0], size[1], size[2], size[3]);
        PriorityQueue<Integer> due = new PriorityQueue<>();
        int calls = 1;
        int number = 1;
        while (calls + 3 + due.size() < CALLS) {
            for (int n = 0; n < 2; n++) {
                number = number * 1103515245 + 12345;
                int key = (number >>> 1) % limit;
                C.due(name + ": insert(" + key + ")", q.insert(key), 0);
                due.add(key);
            }
            C.due(name + ": take()", q.take(), due.remove());
            calls += 3;
        }
        while (!due.isEmpty()) {
            C.due(name + ": take()", q.take(), due.remove());
            calls++;
        }
        C.due(name + ": no more key", q.take(), -1);
        if (calls + 1 > CALLS) {
            C.say(name + ": too many calls");
        }
    }

    private static void keysThatComeInOrderAndBackwards() {
        int keys = 160;
        SpillQueue up = Make.formatted(200, 11, 4, 2);
        SpillQueue down = Make.formatted(200, 11, 4, 2);
        for (int n = 0; n < keys; n++) {
            C.due("insert()", up.insert(n), 0);
            C.due("insert()", down.insert(keys - 1 - n), 0);
            C.due("least of those that come in order", up.min(), 0);
        }
        for (int n = 0; n < keys; n++) {
            C.due("came in order", up.take(), n);
            C.due("came backwards", down.take(), n);
        }
        C.due("came in order", up.take(), -1);
        C.due("came backwards", down.take(), -1);
    }

    /**
     * "power may go off at any write, and what was synced is there again then": the same calls,
     * with the cut one write later each time, until they come through without it.
     */
    private static void powerGoesOffAtAnyWrite() {
        int n = 1;
        while (n < 1000 && powerGoesOffAt(n)) {
            n++;
        }
        C.due("more cuts than the 12 superblocks, but not for ever", n > 12 && n < 1000 ? 1 : 0, 1);
    }

    /** Five keys come, two are taken, and all is synced, time and again. True: it was cut. */
    private static boolean powerGoesOffAt(int n) {
        String when = "cut at " + n;
        SpillQueue q = Make.formatted(40, 11, 3, 2);
        PriorityQueue<Integer> now = new PriorityQueue<>();
        PriorityQueue<Integer> synced = new PriorityQueue<>();
        q.cutAt(n);
        for (int call = 0; call < 12 * 8; call++) {
            int answer = 0;
            if (call % 8 < 5) {
                int key = call * 57 % 101;
                answer = q.insert(key);
                now.add(key);
            } else if (call % 8 < 7) {
                C.due(when + ": take()", q.take(), now.remove());
            } else {
                answer = q.sync();
            }
            if (answer == -9) {
                syncedIsThereAgain(when, q, synced);
                return true;
            }
            C.due(when + ": call number " + call, answer, 0);
            if (call % 8 == 7) {
                synced = new PriorityQueue<>(now);
            }
        }
        C.due(when + ": that would be the next write", q.about(5), n);
        q.cut();
        syncedIsThereAgain(when, q, synced);
        return false;
    }

    private static void syncedIsThereAgain(String when, SpillQueue q,
            PriorityQueue<Integer> synced) {
        C.due(when + ": dead", q.about(6), 1);
        C.due(when + ": recover()", q.recover(), synced.size());
        PriorityQueue<Integer> due = new PriorityQueue<>(synced);
        while (!due.isEmpty()) {
            C.due(when + ": take()", q.take(), due.remove());
        }
        C.due(when + ": no more key", q.take(), -1);
    }

    /** "An object is used for at most 512 calls": so its 512th still answers as it must. */
    private static void theLastOf512Calls() {
        manyFormats();
        manySyncs();
        manyRecoveries();
        manyKeys();
        manySpoiledWords();
        manyRefusedCalls();
    }

    private static void manyFormats() {
        SpillQueue q = new SpillQueue();
        for (int n = 1; n < CALLS; n++) {
            q.format(4 + n % 197, 11 + n % 30, 1 + n % 100, 2 + n % 4);
        }
        C.due("the 512th call: writes since the last format()", q.about(5), 1);
    }

    private static void manySyncs() {
        SpillQueue q = Make.formatted(4, 11, 1, 2);
        for (int n = 2; n < CALLS; n++) {
            C.due("sync() number " + (n - 1), q.sync(), 0);
        }
        C.due("the 512th call: the epoch", q.about(3), CALLS - 1);
    }

    private static void manyRecoveries() {
        SpillQueue q = Make.formatted(200, 40, 100, 5);
        Make.insertAll(C, q, 3, 1, 2);
        C.due("sync()", q.sync(), 0);
        for (int n = 6; n < CALLS; n++) {
            C.due("recover() number " + (n - 5), q.recover(), 3);
        }
        C.due("the 512th call: the least key", q.take(), 1);
    }

    private static void manyKeys() {
        SpillQueue q = Make.formatted(200, 11, 1, 2);
        for (int n = 2; n < CALLS; n++) {
            C.due("insert() number " + (n - 1), q.insert(CALLS - n), 0);
        }
        C.due("the 512th call: how many keys", q.size(), CALLS - 2);
    }

    private static void manySpoiledWords() {
        SpillQueue q = Make.formatted(200, 40, 1, 2);
        q.cut();
        for (int n = 3; n < CALLS; n++) {
            q.spoil(n % 200, n % 40, -1);
        }
        C.due("the 512th call: a word that was turned over three times", q.word(110, 30), -1);
    }

    private static void manyRefusedCalls() {
        SpillQueue q = Make.formatted(4, 11, 1, 2);
        C.due("insert()", q.insert(8), 0);
        for (int n = 3; n < CALLS; n++) {
            C.badArgument("insert(-1)", () -> q.insert(-1));
        }
        C.due("the 512th call: the key is still there", q.take(), 8);
    }
}
