import java.util.Random;

/**
 * Runs of made-up calls, each answered by the program and by the model. The numbers are made from
 * fixed seeds: every run of this test makes the same calls. An object gets 512 calls at most, the
 * looks at its state included, as the document says nothing of more.
 */
public final class ModelTest {
    private static final int SEEDS = 6000;
    private static final int CALLS = 512;
    private static final int LOOK = 7 + 1;

    private interface Call {
        long go();
    }

    private final Check c;
    private final Random random;
    private final String name;
    private final SpillQueue q = new SpillQueue();
    private final Model m = new Model();
    private int left = CALLS;
    private int blocks = 4;
    private int words = 11;
    private int keyLimit = 10;
    private int[] weights = new int[8];

    private ModelTest(Check c, int seed) {
        this.c = c;
        this.random = new Random(seed);
        this.name = "seed " + seed;
    }

    public static void main(String[] args) {
        Check c = new Check();
        for (int seed = 1; seed <= SEEDS; seed++) {
            new ModelTest(c, seed).goThrough();
        }
        c.end();
    }

    private void goThrough() {
        beginAnew();
        int length = 20 + random.nextInt(CALLS - 20);
        for (int n = 0; n < length && left > 60; n++) {
            oneStep();
        }
        look();
        lookAtDisk();
    }

    private void beginAnew() {
        boolean large = random.nextInt(10) == 0;
        blocks = large ? 20 + random.nextInt(181) : 4 + random.nextInt(20);
        words = large ? 11 + random.nextInt(30) : 11 + random.nextInt(14);
        int mem = large ? 1 + random.nextInt(100) : 1 + random.nextInt(12);
        int fan = 2 + random.nextInt(4);
        keyLimit = 1 << (1 + random.nextInt(30));
        for (int i = 0; i < weights.length; i++) {
            weights[i] = random.nextInt(8);
        }
        weights[0] += 6;
        int b = blocks;
        int w = words;
        both("format(" + b + ", " + w + ", " + mem + ", " + fan + ")", () -> {
            q.format(b, w, mem, fan);
            return 0;
        }, () -> {
            m.format(b, w, mem, fan);
            return 0;
        });
    }

    private void oneStep() {
        int sum = 2;
        for (int weight : weights) {
            sum += weight;
        }
        int pick = random.nextInt(sum);
        int kind = 0;
        while (kind < weights.length && pick >= weights[kind]) {
            pick -= weights[kind];
            kind++;
        }
        if (kind == 0 || kind == 1) {
            severalInserts();
        } else if (kind == 2 || kind == 3) {
            severalTakes();
        } else if (kind == 4) {
            both("sync()", q::sync, m::sync);
        } else if (kind == 5) {
            setCut();
        } else if (kind == 6) {
            both("recover()", q::recover, m::recover);
        } else if (kind == 7 && random.nextInt(3) == 0) {
            damage();
        } else if (random.nextInt(4) == 0) {
            wrongCall();
        } else {
            look();
        }
        if (m.about(6) == 1 && random.nextInt(3) > 0) {
            both("recover()", q::recover, m::recover);
        }
    }

    private void severalInserts() {
        for (int n = random.nextInt(12); n > 0 && left > 60; n--) {
            int key = random.nextInt(keyLimit);
            both("insert(" + key + ")", () -> q.insert(key), () -> m.insert(key));
        }
    }

    private void severalTakes() {
        for (int n = random.nextInt(8); n > 0 && left > 60; n--) {
            both("take()", q::take, m::take);
        }
    }

    private void setCut() {
        int n = random.nextInt(12);
        both("cutAt(" + n + ")", () -> {
            q.cutAt(n);
            return 0;
        }, () -> {
            m.cutAt(n);
            return 0;
        });
    }

    private void cut() {
        both("cut()", () -> {
            q.cut();
            return 0;
        }, () -> {
            m.cut();
            return 0;
        });
    }

    /** Words of a dead disk are changed, most often with the sum mended, and then it is recovered. */
    private void damage() {
        cut();
        for (int n = random.nextInt(3); n >= 0 && left > 60; n--) {
            int block = random.nextInt(3) == 0 ? random.nextInt(blocks) : random.nextInt(2);
            int i = random.nextInt(3) == 0 ? random.nextInt(words) : 1 + random.nextInt(8);
            spoil(block, i, m.word(block, i) ^ likelyWord(m.word(block, i)));
            if (random.nextInt(4) > 0) {
                mendSum(block);
            }
        }
        both("recover()", q::recover, m::recover);
    }

    private int likelyWord(int before) {
        switch (random.nextInt(6)) {
            case 0:
                return random.nextInt(blocks + 2) - 1;
            case 1:
                return before + random.nextInt(5) - 2;
            case 2:
                return random.nextInt(words + 2) - 1;
            case 3:
                return Integer.MAX_VALUE - random.nextInt(3);
            case 4:
                return Integer.MIN_VALUE + random.nextInt(3);
            default:
                return random.nextInt();
        }
    }

    private void mendSum(int block) {
        int sum = 7;
        for (int i = 1; i < words; i++) {
            sum += m.word(block, i) * (2 * i + 1);
        }
        spoil(block, 0, m.word(block, 0) ^ sum);
    }

    private void spoil(int block, int i, int x) {
        both("spoil(" + block + ", " + i + ", " + x + ")", () -> {
            q.spoil(block, i, x);
            return 0;
        }, () -> {
            m.spoil(block, i, x);
            return 0;
        });
    }

    private int wild() {
        int[] values = {-1, 0, 1, 2, 5, 6, 7, blocks, words, blocks - 1, words - 1, 10000, 10001,
            Integer.MAX_VALUE, Integer.MIN_VALUE, random.nextInt()};
        return values[random.nextInt(values.length)];
    }

    private void wrongCall() {
        int a = wild();
        int b = wild();
        int x = wild();
        switch (random.nextInt(7)) {
            case 0:
                both("insert(" + a + ")", () -> q.insert(a), () -> m.insert(a));
                break;
            case 1:
                both("run(" + a + ", " + b + ")", () -> q.run(a, b), () -> m.run(a, b));
                break;
            case 2:
                both("about(" + a + ")", () -> q.about(a), () -> m.about(a));
                break;
            case 3:
                both("word(" + a + ", " + b + ")", () -> q.word(a, b), () -> m.word(a, b));
                break;
            case 4:
                spoil(a, b, x);
                break;
            case 5:
                both("format(" + a + ", " + b + ", " + x + ", 6)", () -> {
                    q.format(a, b, x, 6);
                    return 0;
                }, () -> {
                    m.format(a, b, x, 6);
                    return 0;
                });
                break;
            default:
                both("cutAt(" + a + ")", () -> {
                    q.cutAt(a);
                    return 0;
                }, () -> {
                    m.cutAt(a);
                    return 0;
                });
                break;
        }
    }

    private void look() {
        if (left < LOOK + 6 * 9 + 1) {
            return;
        }
        for (int what = 0; what <= 6; what++) {
            int it = what;
            both("about(" + it + ")", () -> q.about(it), () -> m.about(it));
        }
        both("size()", q::size, m::size);
        both("min()", q::min, m::min);
        for (int i = 0; i < m.about(0); i++) {
            for (int what = 0; what <= 5; what++) {
                int at = i;
                int it = what;
                both("run(" + at + ", " + it + ")", () -> q.run(at, it), () -> m.run(at, it));
            }
        }
    }

    private void lookAtDisk() {
        int start = random.nextInt(blocks * words);
        for (int n = 0; n < blocks * words && left > 0; n++) {
            int at = (start + n) % (blocks * words);
            both("word(" + at / words + ", " + at % words + ")",
                    () -> q.word(at / words, at % words), () -> m.word(at / words, at % words));
        }
    }

    private void both(String call, Call program, Call model) {
        if (left <= 0) {
            return;
        }
        left--;
        String got = answer(program);
        String due = answer(model);
        if (!got.equals(due)) {
            c.say(name + ": " + call + " answered " + got + ", due is " + due);
            // From here on the two are in different states: what follows would tell nothing new.
            left = 0;
        }
    }

    private static String answer(Call call) {
        try {
            return Long.toString(call.go());
        } catch (RuntimeException e) {
            return "throws " + e.getClass().getName();
        }
    }
}
