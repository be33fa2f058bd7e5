/** cutAt() sets or lifts the cut of power at a write to come. */
public final class Promise07CutAtTest {
    private static final Check C = new Check();

    public static void main(String[] args) {
        theLimits();
        theNthWrite();
        aLaterCallReplacesIt();
        recoveryLiftsIt();
        C.end();
    }

    private static void theLimits() {
        SpillQueue q = Make.formatted(8, 11, 2, 2);
        int[] wrong = {-1, 10001, Integer.MAX_VALUE, Integer.MIN_VALUE};
        for (int n : wrong) {
            C.badArgument("cutAt(" + n + ")", () -> q.cutAt(n));
        }
        C.due("sync()", q.sync(), 0);
        q.cutAt(10000);
        C.due("sync()", q.sync(), 0);
        q.cutAt(1);
        C.badArgument("cutAt(-1)", () -> q.cutAt(-1));
        C.due("a wrong call lifts nothing", q.sync(), -9);
        C.dead("cutAt(0)", () -> q.cutAt(0));
        C.dead("cutAt(-1)", () -> q.cutAt(-1));
    }

    private static void theNthWrite() {
        for (int n = 1; n <= 5; n++) {
            SpillQueue q = Make.formatted(8, 11, 2, 2);
            q.cutAt(n);
            for (int i = 1; i < n; i++) {
                C.due("sync() number " + i + " of " + n, q.sync(), 0);
            }
            C.due("alive before write " + n, q.about(6), 0);
            C.due("sync() number " + n, q.sync(), -9);
            C.due("dead at write " + n, q.about(6), 1);
            C.due("writes", q.about(5), n);
        }
    }

    private static void aLaterCallReplacesIt() {
        SpillQueue q = Make.formatted(8, 11, 2, 2);
        q.cutAt(1);
        q.cutAt(0);
        C.due("lifted", q.sync(), 0);
        q.cutAt(1);
        q.cutAt(2);
        C.due("put off", q.sync(), 0);
        q.cutAt(2);
        C.due("from then on", q.sync(), 0);
        C.due("now", q.sync(), -9);
    }

    private static void recoveryLiftsIt() {
        SpillQueue q = Make.formatted(8, 11, 2, 2);
        q.cutAt(1);
        C.due("recover() while live", q.recover(), 0);
        C.due("sync()", q.sync(), 0);
        q.cutAt(1);
        q.cut();
        C.due("recover()", q.recover(), 0);
        C.due("sync()", q.sync(), 0);
        q.cutAt(1);
        C.due("sync()", q.sync(), -9);
        C.due("recover()", q.recover(), 0);
        C.due("sync()", q.sync(), 0);
        C.due("sync()", q.sync(), 0);
    }
}
