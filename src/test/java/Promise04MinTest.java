/** min() tells the least key and leaves it. */
public final class Promise04MinTest {
    private static final Check C = new Check();

    public static void main(String[] args) {
        wherever();
        whereverAmongRuns();
        noKey();
        itChangesNothing();
        C.end();
    }

    /** "The least key" */
    private static void wherever() {
        SpillQueue q = Make.formatted(12, 11, 2, 2);
        C.due("no key", q.min(), -1);
        Make.insertAll(C, q, Integer.MAX_VALUE);
        C.due("one key", q.min(), Integer.MAX_VALUE);
        Make.insertAll(C, q, 7);
        C.due("in memory", q.min(), 7);
        Make.insertAll(C, q, 9);
        C.due("in a run", q.min(), 7);
        C.due("it stays", q.min(), 7);
        C.due("size()", q.size(), 3);
        Make.insertAll(C, q, 3);
        C.due("in memory again", q.min(), 3);
        Make.insertAll(C, q, 5, 0);
        C.due("0 is a key", q.min(), 0);
        C.due("about(5)", q.about(5), 4);
        C.takesDue("all", q, 0, 3, 5);
        C.due("in the merged run", q.min(), 7);
        C.takesDue("all", q, 7, 9, Integer.MAX_VALUE);
        C.due("no key again", q.min(), -1);
        q.cut();
        C.dead("min()", () -> q.min());
    }

    private static void whereverAmongRuns() {
        for (int least = 0; least < 5; least++) {
            SpillQueue q = Make.formatted(12, 23, 1, 5);
            for (int i = 0; i < 5; i++) {
                Make.insertAll(C, q, i == least ? 10 : 20 - i);
            }
            C.due("four runs, and a key in memory", q.about(0), 4);
            C.due("the least is number " + least, q.min(), 10);
            C.takesDue("it", q, 10);
            C.due("the next one", q.min(), least == 4 ? 17 : 16);
        }
    }

    /** "-1 when there is none" */
    private static void noKey() {
        SpillQueue q = Make.formatted(12, 11, 2, 2);
        C.due("formatted", q.min(), -1);
        C.due("sync()", q.sync(), 0);
        C.due("synced", q.min(), -1);
        Make.insertAll(C, q, 0);
        C.due("the least key that can be", q.min(), 0);
        C.takesDue("it", q, 0);
        C.due("taken from memory", q.min(), -1);
        Make.insertAll(C, q, 0);
        C.due("sync()", q.sync(), 0);
        C.due("in a run", q.min(), 0);
        C.takesDue("it", q, 0);
        C.due("taken from a run", q.min(), -1);
        C.due("recover()", q.recover(), 1);
        C.due("it is there again", q.min(), 0);
    }

    private static void itChangesNothing() {
        SpillQueue q = Make.formatted(6, 11, 2, 2);
        Make.insertAll(C, q, 5, 4, 3);
        q.cutAt(1);
        String before = Look.at(q) + Look.atDisk(q, 6, 11);
        C.due("min()", q.min(), 3);
        C.same("behind it", Look.at(q) + Look.atDisk(q, 6, 11), before);
        C.due("the cut is still to come", q.sync(), -9);
    }
}
