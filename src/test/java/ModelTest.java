import java.util.Random;

/** Long runs of calls, each one's answer held against PlainModel; the runs are the same each time. */
public final class ModelTest {
    private static final int RUNS = 3000;
    private static final int CALLS = 512;
    private static final int RECOVER = 13;
    /** How often a run makes each call, a row for a kind of run; the calls stand in the order of the document. */
    private static final int[][] HABITS = {
        {20, 500, 9, 9, 5, 90, 110, 9, 60, 9, 4, 30, 2, 1, 5, 20, 5, 5, 9, 20, 9, 5, 5, 5, 5, 9, 5, 5, 5, 5, 5},
        {10, 700, 9, 9, 3, 150, 180, 9, 9, 3, 1, 9, 2, 1, 3, 9, 3, 3, 9, 20, 5, 3, 3, 3, 3, 3, 3, 3, 3, 3, 3},
        {10, 400, 5, 5, 3, 60, 70, 5, 200, 9, 3, 40, 3, 1, 3, 15, 5, 5, 9, 25, 9, 5, 5, 9, 5, 20, 5, 3, 3, 3, 3},
        {40, 400, 5, 5, 3, 90, 110, 5, 90, 20, 20, 30, 20, 3, 3, 15, 5, 5, 9, 25, 9, 5, 5, 5, 5, 9, 5, 3, 3, 3, 3},
        {5, 60, 3, 3, 1, 9, 9, 3, 900, 5, 5, 9, 5, 5, 1, 5, 3, 1, 3, 5, 3, 3, 3, 9, 9, 40, 9, 1, 1, 1, 1},
        {60, 300, 9, 9, 9, 60, 60, 60, 60, 30, 30, 30, 30, 9, 9, 30, 9, 9, 30, 30, 9, 9, 9, 9, 9, 30, 9, 9, 9, 9, 9},
    };

    private final Random random;
    private final int[] habit;
    private final int keyCount;
    private final int mostPass;
    private final int mostBound;
    private final int mostCost;
    private final SlipstreamCache real = new SlipstreamCache();
    private final PlainModel model = new PlainModel();
    private int calls = 0;

    private ModelTest(long seed) {
        random = new Random(seed);
        habit = HABITS[random.nextInt(HABITS.length)];
        keyCount = new int[] {3, 5, 8, 12, 20, 32}[random.nextInt(6)];
        mostPass = new int[] {1, 3, 8, 60}[random.nextInt(4)];
        mostBound = new int[] {3, 10, 60}[random.nextInt(3)];
        mostCost = new int[] {1, 2, 9}[random.nextInt(3)];
    }

    public static void main(String[] args) {
        for (long seed = 0; seed < RUNS; seed++) {
            if (!new ModelTest(seed).runs()) {
                Check.tell("the run " + seed + " differs");
                break;
            }
        }
        Check.end("ModelTest");
    }

    private boolean runs() {
        for (int key = 0; key < keyCount && random.nextInt(8) != 0; key++) {
            if (!same(0, new int[] {key, 1 + random.nextInt(4), 1 + random.nextInt(mostCost),
                    random.nextInt(4)})) {
                return false;
            }
        }
        boolean looksAtTheEnd = random.nextBoolean();
        while (calls < (looksAtTheEnd ? CALLS - 210 : CALLS)) {
            int call = pick();
            if (!same(call, arguments(call))) {
                return false;
            }
        }
        return !looksAtTheEnd || looksSame();
    }

    private int pick() {
        int sum = 0;
        for (int weight : habit) {
            sum += weight;
        }
        if (model.isDown() && random.nextInt(4) == 0) {
            return RECOVER;
        }
        int left = random.nextInt(sum);
        int call = 0;
        while (left >= habit[call]) {
            left -= habit[call];
            call++;
        }
        return call;
    }

    /** Once in a while a number outside of the range, and its edges often. */
    private int number(int least, int most) {
        int odds = random.nextInt(100);
        if (odds < 1) {
            return random.nextBoolean() ? least - 1 - random.nextInt(2) : most + 1 + random.nextInt(2);
        }
        return odds < 8 ? (random.nextBoolean() ? least : most) : least + random.nextInt(Math.max(1, most - least + 1));
    }

    private int key() {
        return random.nextInt(60) == 0 ? number(0, 31) : random.nextInt(3) == 0 ? random.nextInt(Math.min(3, keyCount))
                : random.nextInt(keyCount);
    }

    /** Mostly one that is out, as others are refused alike. */
    private int lease() {
        if (random.nextInt(20) == 0) {
            return number(0, 59);
        }
        int lease = 0;
        for (int tries = 0; tries < 8; tries++) {
            lease = random.nextInt(Math.max(1, model.leaseCount()));
            Object state = answer(true, 7, new int[] {lease});
            if (state.equals('o') || state.equals('r')) {
                break;
            }
        }
        return lease;
    }

    private int[] arguments(int call) {
        switch (call) {
            case 0: return new int[] {key(), number(1, 4), number(1, 9), number(0, 3)};
            case 1: return new int[] {key(), random.nextInt(9) == 0 ? number(0, 60) : random.nextInt(mostBound + 1),
                random.nextInt(2) == 0 ? number(0, 60) : random.nextInt(mostBound + 1)};
            case 5: case 6: case 7: return new int[] {lease()};
            case 8: return new int[] {key(), random.nextInt(100) == 0 ? random.nextInt() : random.nextInt(1000),
                "tbatbbtbatbbtbatbbtbatbbq".charAt(random.nextInt(25))};
            case 10: return new int[] {number(0, 3)};
            case 11: return new int[] {random.nextInt(30) == 0 ? number(1, 60) : 1 + random.nextInt(mostPass)};
            case 19: return new int[] {number(0, 3), number(0, 3)};
            case 20: return new int[] {number(0, 3)};
            case 25: return new int[] {number(0, Math.max(0, model.messages() - 1))};
            default: return new int[] {key()};
        }
    }

    private boolean looksSame() {
        for (int key = 0; key < 32; key++) {
            int[] calls = {15, 17, 18, 21, 26};
            for (int call : calls) {
                if (!same(call, new int[] {key})) {
                    return false;
                }
            }
        }
        for (int at = 0; at < 16; at++) {
            if (!same(19, new int[] {at / 4, at % 4}) || !same(20, new int[] {at / 4})) {
                return false;
            }
        }
        int[] calls = {2, 3, 4, 14, 16, 22, 23, 24, 27, 28, 29, 30};
        for (int call : calls) {
            if (!same(call, new int[] {})) {
                return false;
            }
        }
        return true;
    }

    private boolean same(int call, int[] numbers) {
        calls++;
        Object want = answer(true, call, numbers);
        Object got = answer(false, call, numbers);
        Check.due(want, got);
        if (!want.equals(got)) {
            Check.tell("call " + call + " with " + java.util.Arrays.toString(numbers) + ", as number " + calls);
        }
        return want.equals(got);
    }

    private Object answer(boolean isModel, int call, int[] numbers) {
        try {
            return isModel ? modelAnswer(call, numbers) : realAnswer(call, numbers);
        } catch (RuntimeException thrown) {
            return thrown.getClass();
        }
    }

    private Object modelAnswer(int call, int[] n) {
        switch (call) {
            case 0: return model.setKey(n[0], n[1], n[2], n[3]);
            case 1: return model.get(n[0], n[1], n[2]);
            case 2: return model.value();
            case 3: return model.staleness();
            case 4: return model.lease();
            case 5: return model.read(n[0]);
            case 6: return model.fill(n[0]);
            case 7: return model.leaseState(n[0]);
            case 8: return model.write(n[0], n[1], (char) n[2]);
            case 9: return model.drop(n[0]);
            case 10: return model.bump(n[0]);
            case 11: return model.pass(n[0]);
            case 12: return model.crash();
            case 13: return model.recover();
            case 14: return model.minute();
            case 15: return model.where(n[0]);
            case 16: return model.used();
            case 17: return model.estimate(n[0]);
            case 18: return model.versionOf(n[0]);
            case 19: return model.slot(n[0], n[1]);
            case 20: return model.wear(n[0]);
            case 21: return model.stored(n[0]);
            case 22: return model.promises();
            case 23: return model.nextPromise();
            case 24: return model.messages();
            case 25: return model.deliver(n[0]);
            case 26: return model.mirrored(n[0]);
            case 27: return model.paid();
            case 28: return model.answeredShare();
            case 29: return model.meanStaleness();
            default: return model.isHonest();
        }
    }

    private Object realAnswer(int call, int[] n) {
        switch (call) {
            case 0: return real.setKey(n[0], n[1], n[2], n[3]);
            case 1: return real.get(n[0], n[1], n[2]);
            case 2: return real.value();
            case 3: return real.staleness();
            case 4: return real.lease();
            case 5: return real.read(n[0]);
            case 6: return real.fill(n[0]);
            case 7: return real.leaseState(n[0]);
            case 8: return real.write(n[0], n[1], (char) n[2]);
            case 9: return real.drop(n[0]);
            case 10: return real.bump(n[0]);
            case 11: return real.pass(n[0]);
            case 12: return real.crash();
            case 13: return real.recover();
            case 14: return real.minute();
            case 15: return real.where(n[0]);
            case 16: return real.used();
            case 17: return real.estimate(n[0]);
            case 18: return real.versionOf(n[0]);
            case 19: return real.slot(n[0], n[1]);
            case 20: return real.wear(n[0]);
            case 21: return real.stored(n[0]);
            case 22: return real.promises();
            case 23: return real.nextPromise();
            case 24: return real.messages();
            case 25: return real.deliver(n[0]);
            case 26: return real.mirrored(n[0]);
            case 27: return real.paid();
            case 28: return real.answeredShare();
            case 29: return real.meanStaleness();
            default: return real.isHonest();
        }
    }
}
