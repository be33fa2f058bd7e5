/**
 * All that can be seen of a queue, as one text, to compare what it answers before and behind a call.
 * Each look is some hundred calls on a small disk: an object bears a few of them only.
 */
final class Look {
    /** So that the test ends for a program whose take() never tells that there is no key. */
    private static final int MOST_TAKES = 512;

    private interface Call {
        int go();
    }

    private Look() {
    }

    static String at(SpillQueue q) {
        StringBuilder text = new StringBuilder();
        for (int what = 0; what <= 6; what++) {
            text.append(" about").append(what).append('=').append(q.about(what));
        }
        text.append(" size=").append(q.size());
        text.append(" min=").append(answer(q::min));
        for (int i = 0; i < q.about(0); i++) {
            text.append(" run").append(i).append('=');
            for (int what = 0; what <= 5; what++) {
                text.append(q.run(i, what)).append(',');
            }
        }
        return text.toString();
    }

    static String atDisk(SpillQueue q, int blocks, int words) {
        StringBuilder text = new StringBuilder();
        for (int block = 0; block < blocks; block++) {
            text.append(" block").append(block).append('=');
            for (int i = 0; i < words; i++) {
                text.append(q.word(block, i)).append(',');
            }
        }
        return text.toString();
    }

    /** What is left in a live queue, from the least key to the greatest; they are gone then. */
    static String keysTaken(SpillQueue q) {
        StringBuilder text = new StringBuilder();
        int key = q.take();
        for (int n = 0; n < MOST_TAKES && key >= 0; n++) {
            text.append(key).append(',');
            key = q.take();
        }
        return text.toString();
    }

    private static String answer(Call call) {
        try {
            return Integer.toString(call.go());
        } catch (IllegalStateException e) {
            return "dead";
        }
    }
}
