import java.util.ArrayList;
import java.util.List;

/**
 * "A call that throws changes nothing; where several exceptions that a call names fit, it is the
 * one that it names first." Every call that can be refused is refused in every state in which it
 * can be; all that can be seen is compared before and behind it, and so are the answers of later
 * calls with those of a queue without the refused call.
 */
public final class Terms11RefusedCallsTest {
    private static final Check C = new Check();
    private static final int BLOCKS = 7;
    private static final int WORDS = 11;
    private static final int MAX = Integer.MAX_VALUE;
    private static final int MIN = Integer.MIN_VALUE;

    private interface Go {
        void on(SpillQueue q);
    }

    private static final class Refused {
        final String name;
        final Go call;
        final Class<? extends RuntimeException> due;

        Refused(String name, Go call, Class<? extends RuntimeException> due) {
            this.name = name;
            this.call = call;
            this.due = due;
        }
    }

    /** The states; each has a disk but the first. */
    private enum State {
        NEW, EMPTY, KEYS_IN_MEMORY, FULL_MEMORY, RUNS, MOST_RUNS, NO_ROOM, CUT_TO_COME, CUT_OFF,
        CUT_AT_WRITE, NONE_GOOD, RECOVERED;

        boolean isLive() {
            return this != NEW && this != CUT_OFF && this != CUT_AT_WRITE && this != NONE_GOOD;
        }

        boolean hasDisk() {
            return this != NEW;
        }
    }

    public static void main(String[] args) {
        for (State state : State.values()) {
            for (Refused refused : refusedIn(state)) {
                refuse(state, refused);
            }
        }
        allOfThemInARow();
        C.end();
    }

    private static SpillQueue make(State state) {
        SpillQueue q = new SpillQueue();
        if (state == State.NEW) {
            return q;
        }
        q.format(state == State.NO_ROOM ? 4 : BLOCKS, WORDS, 3, 5);
        if (state == State.EMPTY) {
            return q;
        }
        Make.insertAll(C, q, 6, 5);
        if (state == State.KEYS_IN_MEMORY) {
            return q;
        }
        Make.insertAll(C, q, 4);
        if (state == State.FULL_MEMORY) {
            return q;
        }
        Make.insertAll(C, q, 9);
        C.takesDue("4", q, 4);
        C.due("sync()", q.sync(), 0);
        Make.insertAll(C, q, 8, 7, 3);
        go(state, q);
        return q;
    }

    /** From two synced runs and a full memory. */
    private static void go(State state, SpillQueue q) {
        if (state == State.RUNS) {
            C.takesDue("a run goes", q, 3, 5, 6);
        } else if (state == State.CUT_TO_COME) {
            q.cutAt(2);
        } else if (state == State.CUT_OFF) {
            q.cut();
        } else if (state == State.CUT_AT_WRITE) {
            q.cutAt(2);
            C.due("sync()", q.sync(), -9);
        } else if (state == State.NONE_GOOD) {
            q.cut();
            q.spoil(0, 0, 1);
            q.spoil(1, 0, 1);
            C.due("recover()", q.recover(), -3);
        } else if (state == State.RECOVERED) {
            C.due("recover()", q.recover(), 3);
        }
    }

    private static List<Refused> refusedIn(State state) {
        List<Refused> list = new ArrayList<>();
        addFormats(list);
        if (state.isLive()) {
            addOfALiveOne(list, state);
        } else {
            addOfADeadOne(list);
        }
        if (!state.hasDisk()) {
            list.add(new Refused("cut()", q -> q.cut(), IllegalStateException.class));
            list.add(new Refused("recover()", q -> q.recover(), IllegalStateException.class));
        }
        int blocks = !state.hasDisk() ? 0 : state == State.NO_ROOM ? 4 : BLOCKS;
        addWords(list, state, blocks);
        int[] whats = {-1, 7, 8, MAX, MIN};
        for (int what : whats) {
            list.add(new Refused("about(" + what + ")", q -> q.about(what),
                    IndexOutOfBoundsException.class));
        }
        return list;
    }

    private static void addFormats(List<Refused> list) {
        int[][] wrong = {
            {3, 11, 3, 5}, {201, 11, 3, 5}, {7, 10, 3, 5}, {7, 41, 3, 5}, {7, 11, 0, 5},
            {7, 11, 101, 5}, {7, 11, 3, 1}, {7, 11, 3, 6}, {0, 0, 0, 0}, {MIN, MIN, MIN, MIN},
            {MAX, MAX, MAX, MAX}, {4, 40, 1, -5}, {200, 40, -100, 2}};
        for (int[] w : wrong) {
            list.add(new Refused("format(" + w[0] + ", " + w[1] + ", " + w[2] + ", " + w[3] + ")",
                    q -> q.format(w[0], w[1], w[2], w[3]), IllegalArgumentException.class));
        }
    }

    private static void addOfALiveOne(List<Refused> list, State state) {
        int[] keys = {-1, MIN};
        for (int key : keys) {
            list.add(new Refused("insert(" + key + ")", q -> q.insert(key),
                    IllegalArgumentException.class));
        }
        int[] writes = {-1, 10001, MAX, MIN};
        for (int n : writes) {
            list.add(new Refused("cutAt(" + n + ")", q -> q.cutAt(n),
                    IllegalArgumentException.class));
        }
        int runs = make(state).about(0);
        int[][] wrong = {
            {-1, 0}, {runs, 0}, {runs + 1, 5}, {MAX, 0}, {MIN, 0}, {0, -1}, {0, 6}, {0, MAX},
            {0, MIN}, {runs - 1, 6}, {-1, -1}, {runs, 6}};
        for (int[] w : wrong) {
            list.add(new Refused("run(" + w[0] + ", " + w[1] + ")", q -> q.run(w[0], w[1]),
                    IndexOutOfBoundsException.class));
        }
    }

    private static void addOfADeadOne(List<Refused> list) {
        Class<IllegalStateException> due = IllegalStateException.class;
        list.add(new Refused("insert(1)", q -> q.insert(1), due));
        list.add(new Refused("insert(-1)", q -> q.insert(-1), due));
        list.add(new Refused("min()", q -> q.min(), due));
        list.add(new Refused("take()", q -> q.take(), due));
        list.add(new Refused("sync()", q -> q.sync(), due));
        list.add(new Refused("cutAt(0)", q -> q.cutAt(0), due));
        list.add(new Refused("cutAt(1)", q -> q.cutAt(1), due));
        list.add(new Refused("cutAt(-1)", q -> q.cutAt(-1), due));
        list.add(new Refused("cutAt(10001)", q -> q.cutAt(10001), due));
        list.add(new Refused("run(0, 0)", q -> q.run(0, 0), due));
        list.add(new Refused("run(-1, 0)", q -> q.run(-1, 0), due));
        list.add(new Refused("run(0, 6)", q -> q.run(0, 6), due));
    }

    private static void addWords(List<Refused> list, State state, int blocks) {
        int[][] wrong = {
            {blocks, 0}, {-1, 0}, {0, WORDS}, {0, -1}, {blocks - 1, WORDS}, {blocks, WORDS - 1},
            {1, -WORDS}, {-1, WORDS}, {MAX, 0}, {MIN, 0}, {0, MAX}, {0, MIN}};
        for (int[] w : wrong) {
            list.add(new Refused("word(" + w[0] + ", " + w[1] + ")", q -> q.word(w[0], w[1]),
                    IndexOutOfBoundsException.class));
            list.add(new Refused("spoil(" + w[0] + ", " + w[1] + ", 1)",
                    q -> q.spoil(w[0], w[1], 1), state.isLive()
                    ? IllegalStateException.class : IndexOutOfBoundsException.class));
        }
        if (state.isLive()) {
            list.add(new Refused("spoil(0, 0, 1)", q -> q.spoil(0, 0, 1),
                    IllegalStateException.class));
            list.add(new Refused("spoil(2, 2, 0)", q -> q.spoil(2, 2, 0),
                    IllegalStateException.class));
        }
    }

    private static void refuse(State state, Refused refused) {
        String when = state + ", " + refused.name;
        SpillQueue q = make(state);
        String before = look(q, state);
        C.throwsDue(when, refused.due, () -> refused.call.on(q));
        C.same(when + ": behind it", look(q, state), before);
        SpillQueue without = make(state);
        C.same(when + ": later calls", later(q, state), later(without, state));
    }

    private static String look(SpillQueue q, State state) {
        int blocks = !state.hasDisk() ? 0 : state == State.NO_ROOM ? 4 : BLOCKS;
        return Look.at(q) + Look.atDisk(q, blocks, WORDS);
    }

    /** What is hidden comes to light: the keys in memory, the cut to come, the sizes. */
    private static String later(SpillQueue q, State state) {
        StringBuilder text = new StringBuilder();
        if (state.isLive()) {
            for (int key = 0; key < 9; key++) {
                if (q.about(6) == 0) {
                    text.append(q.insert(key)).append(' ').append(q.about(5)).append(' ');
                }
            }
            text.append(Look.at(q));
            if (q.about(6) == 0) {
                text.append(Look.keysTaken(q));
            }
        }
        if (state.hasDisk()) {
            text.append(q.recover()).append(Look.at(q));
        }
        return text.toString();
    }

    private static void allOfThemInARow() {
        for (State state : State.values()) {
            SpillQueue q = make(state);
            String before = look(q, state);
            for (Refused refused : refusedIn(state)) {
                C.throwsDue(state + ", " + refused.name, refused.due, () -> refused.call.on(q));
            }
            C.same(state + ": behind all of them", look(q, state), before);
            C.same(state + ": later calls", later(q, state), later(make(state), state));
        }
    }
}
