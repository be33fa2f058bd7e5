/** Counts the answers that are not as due, prints each of them, and ends the test. */
final class Check {
    interface Call {
        void go();
    }

    private int wrong;

    void due(String call, long got, long want) {
        if (got != want) {
            say(call + " answered " + got + ", due is " + want);
        }
    }

    /** The class must be this one exactly: a class below it is what the machine itself throws. */
    void throwsDue(String call, Class<? extends RuntimeException> want, Call it) {
        String got = "nothing";
        try {
            it.go();
        } catch (RuntimeException e) {
            if (e.getClass() == want) {
                return;
            }
            got = e.getClass().getName();
        }
        say(call + " threw " + got + ", due is " + want.getName());
    }

    void dead(String call, Call it) {
        throwsDue(call, IllegalStateException.class, it);
    }

    void badArgument(String call, Call it) {
        throwsDue(call, IllegalArgumentException.class, it);
    }

    void badIndex(String call, Call it) {
        throwsDue(call, IndexOutOfBoundsException.class, it);
    }

    void same(String what, String got, String want) {
        if (!got.equals(want)) {
            say(what + ":\n  got " + got + "\n  due " + want);
        }
    }

    void say(String text) {
        wrong++;
        System.out.println(text);
    }

    void aboutDue(String when, SpillQueue q, int... want) {
        for (int what = 0; what < want.length; what++) {
            due(when + ": about(" + what + ")", q.about(what), want[what]);
        }
    }

    void runDue(String when, SpillQueue q, int i, int... want) {
        for (int what = 0; what < want.length; what++) {
            due(when + ": run(" + i + ", " + what + ")", q.run(i, what), want[what]);
        }
    }

    void blockDue(String when, SpillQueue q, int block, int... want) {
        for (int i = 0; i < want.length; i++) {
            due(when + ": word(" + block + ", " + i + ")", q.word(block, i), want[i]);
        }
    }

    /** The whole block: these words from word 1 on, zeros behind them, and their sum in word 0. */
    void wholeBlockDue(String when, SpillQueue q, int words, int block, int... fromWordOne) {
        int[] due = new int[words];
        System.arraycopy(fromWordOne, 0, due, 1, fromWordOne.length);
        due[0] = Make.sumOf(due);
        blockDue(when, q, block, due);
    }

    void takesDue(String when, SpillQueue q, int... want) {
        for (int i = 0; i < want.length; i++) {
            due(when + ": take() number " + i, q.take(), want[i]);
        }
    }

    void end() {
        System.out.println(wrong == 0 ? "all as due" : wrong + " not as due");
        if (wrong != 0) {
            System.exit(1);
        }
    }
}
