/** size() counts the keys in memory and in all runs. */
public final class Promise10SizeTest {
    private static final Check C = new Check();

    public static void main(String[] args) {
        keysComeAndGo();
        keysThatDoNotCome();
        zeroWhenDead();
        C.end();
    }

    /** "How many keys there are" */
    private static void keysComeAndGo() {
        SpillQueue q = Make.formatted(20, 15, 3, 3);
        C.due("formatted", q.size(), 0);
        for (int n = 1; n <= 40; n++) {
            Make.insertAll(C, q, n * 17 % 41);
            C.due("after insert number " + n, q.size(), n);
        }
        C.due("sync()", q.sync(), 0);
        C.due("synced", q.size(), 40);
        for (int n = 39; n >= 0; n--) {
            q.take();
            C.due("taken down to " + n, q.size(), n);
        }
        C.takesDue("none", q, -1);
        C.due("none", q.size(), 0);
        C.due("recover()", q.recover(), 40);
        C.due("recovered", q.size(), 40);
    }

    private static void keysThatDoNotCome() {
        SpillQueue q = Make.formatted(4, 11, 1, 5);
        Make.insertAll(C, q, 1, 2, 3);
        C.due("three", q.size(), 3);
        C.due("no room", q.insert(4), -2);
        C.due("still three", q.size(), 3);
        C.badArgument("insert(-1)", () -> q.insert(-1));
        C.due("still three", q.size(), 3);
        C.due("no room", q.sync(), -2);
        C.due("still three", q.size(), 3);
    }

    /** "0 when it is dead" */
    private static void zeroWhenDead() {
        SpillQueue q = new SpillQueue();
        C.due("no disk", q.size(), 0);
        q.format(20, 15, 3, 3);
        Make.insertAll(C, q, 1, 2);
        q.cut();
        C.due("keys in memory, cut off", q.size(), 0);
        C.due("recover()", q.recover(), 0);
        Make.insertAll(C, q, 1, 2, 3, 4);
        C.due("sync()", q.sync(), 0);
        q.cutAt(1);
        C.due("sync()", q.sync(), -9);
        C.due("synced keys, cut at a write", q.size(), 0);
        C.due("recover()", q.recover(), 4);
        C.due("recovered", q.size(), 4);
        q.cut();
        q.spoil(0, 0, 1);
        q.spoil(1, 0, 1);
        C.due("recover()", q.recover(), -3);
        C.due("none is good", q.size(), 0);
    }
}
