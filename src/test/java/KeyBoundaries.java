import java.util.NoSuchElementException;

/** The boundary cases of a new object, of keys and of the sketch: promises 1, 2, 12 and 19. */
final class KeyBoundaries {
    private static final int[] OUTSIDE_KEYS = {-1, 32, 100, Integer.MIN_VALUE, Integer.MAX_VALUE};

    private KeyBoundaries() {
    }

    static void run() {
        nothingIsInANewObject();
        nothingIsTakenFromANewObject();
        valuesAndVersionsOfTheStore();
        firstMinuteOfTheLog();
        lastCall();
        sizes();
        costs();
        groups();
        keyAtFirst();
        groupNumberAtFirst();
        keysOfSetKey();
        numbersOfSetKey();
        groupBeforeTheCall();
        keyInMemory();
        keyInFlash();
        keyWithLease();
        keyThatHasLeft();
        keyWhileDown();
        firstExceptionOfSetKey();
        countersWrapAround();
        leastOfTheCounters();
        countIsBehindTheAnswer();
        countsUpToFifteen();
        halvingBehindSixtyFour();
        halvingIsCut();
        halvingAgain();
        halvingFromTheLastCrash();
        refusedGetIsNotCounted();
    }

    private static void nothingIsInANewObject() {
        Check.sentence(1, "Creates an empty cache before a store.");
        SlipstreamCache x = new SlipstreamCache();
        for (int key = 0; key < 32; key++) {
            Check.due('-', x.where(key));
            Check.due(0, x.estimate(key));
            Check.due(0, x.mirrored(key));
        }
        for (int segment = 0; segment < 4; segment++) {
            Check.slots(x, segment, -1, -1, -1, -1);
            Check.due(0, x.wear(segment));
        }
        Check.due(0, x.used());
        Check.due(0, x.promises());
        Check.due(0, x.messages());
        Check.due(0L, x.paid());
        Check.due(true, x.isHonest());
    }

    private static void nothingIsTakenFromANewObject() {
        Check.sentence(1, "Creates an empty cache before a store.");
        SlipstreamCache x = new SlipstreamCache();
        Check.refused(NoSuchElementException.class, x, () -> x.value());
        Check.refused(NoSuchElementException.class, x, () -> x.staleness());
        Check.refused(NoSuchElementException.class, x, () -> x.lease());
        Check.refused(NoSuchElementException.class, x, () -> x.nextPromise());
        Check.refused(NoSuchElementException.class, x, () -> x.versionOf(0));
        Check.refused(IndexOutOfBoundsException.class, x, () -> x.read(0));
        Check.refused(IndexOutOfBoundsException.class, x, () -> x.fill(0));
        Check.refused(IndexOutOfBoundsException.class, x, () -> x.leaseState(0));
        Check.refused(IndexOutOfBoundsException.class, x, () -> x.deliver(0));
        Check.refused(ArithmeticException.class, x, () -> x.answeredShare());
        Check.refused(ArithmeticException.class, x, () -> x.meanStaleness());
        Check.refused(IllegalStateException.class, x, () -> x.recover());
        Check.due(false, x.drop(0));
        Check.due(0, x.crash());
        Check.due(0, x.recover());
    }

    private static void valuesAndVersionsOfTheStore() {
        Check.sentence(23, "The store has a value for each key 0 to 31, an int, 0 at first, and a version, 0 at first,"
                + " which grows by 1 with each write of the key.");
        SlipstreamCache x = new SlipstreamCache();
        for (int key = 0; key < 32; key++) {
            Check.due(0, x.stored(key));
        }
        Check.due(1, x.write(0, Integer.MIN_VALUE, 't'));
        Check.due(1, x.write(31, Integer.MAX_VALUE, 'a'));
        Check.due(2, x.write(31, -1, 't'));
        Check.due(0, x.write(1, 5, 'b'));
        Check.due(Integer.MIN_VALUE, x.stored(0));
        Check.due(-1, x.stored(31));
        Check.due(0, x.stored(1));
        Check.due(2, x.write(0, 0, 'a'));
    }

    private static void firstMinuteOfTheLog() {
        Check.sentence(16, "All writes are logged with the minute, 0 at first.");
        SlipstreamCache x = new SlipstreamCache();
        Check.due(0, x.minute());
        Check.load(x, 3);
        x.write(3, 1, 'a');
        x.pass(60);
        Check.due('m', x.get(3, 60, 0));
        Check.due(60, x.staleness());
    }

    private static void lastCall() {
        Check.sentence(1, "An object is used for at most 512 calls after it has been made");
        SlipstreamCache x = new SlipstreamCache();
        Check.due('i', Check.load(x, 0));
        // The loading has asked for the lease twice: five calls are made.
        for (int call = 6; call <= 511; call++) {
            Check.due('m', x.get(0, 0, 0));
        }
        Check.due((float) 506 / (float) 507, x.answeredShare());
    }

    private static void sizes() {
        Check.sentence(2, "A key has a size from 1 to 4");
        SlipstreamCache x = new SlipstreamCache();
        int used = 0;
        for (int size = 1; size <= 4; size++) {
            Check.due(0, x.setKey(size, size, 1, 0));
            Check.due('i', Check.load(x, size));
            used += size;
            Check.due(used, x.used());
        }
        for (int size : new int[] {0, 5, -1, Integer.MIN_VALUE, Integer.MAX_VALUE}) {
            Check.refused(IllegalArgumentException.class, x, () -> x.setKey(9, size, 1, 0));
        }
    }

    private static void costs() {
        Check.sentence(2, "a cost from 1 to 9");
        SlipstreamCache x = new SlipstreamCache();
        long paid = 0;
        for (int cost = 1; cost <= 9; cost++) {
            Check.due(0, x.setKey(cost, 1, cost, 0));
            Check.due('l', x.get(cost, 0, 0));
            paid += cost;
            Check.due(paid, x.paid());
        }
        for (int cost : new int[] {0, 10, -1, Integer.MIN_VALUE, Integer.MAX_VALUE}) {
            Check.refused(IllegalArgumentException.class, x, () -> x.setKey(20, 1, cost, 0));
        }
    }

    private static void groups() {
        Check.sentence(2, "a group from 0 to 3");
        SlipstreamCache x = new SlipstreamCache();
        for (int group = 0; group <= 3; group++) {
            Check.due(0, x.setKey(group, 1, 1, group));
            Check.load(x, group);
        }
        for (int group : new int[] {-1, 4, Integer.MIN_VALUE, Integer.MAX_VALUE}) {
            Check.refused(IllegalArgumentException.class, x, () -> x.setKey(9, 1, 1, group));
        }
        for (int group = 3; group >= 0; group--) {
            Check.due('m', x.get(group, 0, 0));
            x.bump(group);
            Check.due('l', x.get(group, 60, 60));
        }
    }

    private static void keyAtFirst() {
        Check.sentence(2, "at first they are 1, 1 and 0");
        SlipstreamCache x = new SlipstreamCache();
        for (int key = 0; key < 32; key += 31) {
            Check.due('i', Check.load(x, key));
        }
        Check.due(2, x.used());
        Check.due(2L, x.paid());
        x.bump(0);
        Check.due('l', x.get(0, 60, 60));
        Check.due('l', x.get(31, 60, 60));
        Check.due(0, x.setKey(15, 1, 1, 3));
    }

    private static void groupNumberAtFirst() {
        Check.sentence(12, "Each group has a number, 0 at first.");
        SlipstreamCache x = new SlipstreamCache();
        for (int number = 1; number <= 3; number++) {
            for (int group = 0; group < 4; group++) {
                Check.due(number, x.bump(group));
            }
        }
    }

    private static void keysOfSetKey() {
        Check.sentence(2, "the key, 0 to 31");
        SlipstreamCache x = new SlipstreamCache();
        Check.due(0, x.setKey(0, 2, 2, 2));
        Check.due(0, x.setKey(31, 2, 2, 2));
        Check.sentence(2, "if there is no such key");
        for (int key : OUTSIDE_KEYS) {
            Check.refused(IndexOutOfBoundsException.class, x, () -> x.setKey(key, 1, 1, 0));
        }
    }

    private static void numbersOfSetKey() {
        Check.sentence(2, "if a number is out of range");
        SlipstreamCache x = new SlipstreamCache();
        x.setKey(5, 2, 3, 1);
        int[][] wrong = {{0, 3, 1}, {5, 3, 1}, {2, 0, 1}, {2, 10, 1}, {2, 3, -1}, {2, 3, 4}, {0, 0, -1}, {5, 10, 4}};
        for (int[] row : wrong) {
            Check.refused(IllegalArgumentException.class, x, () -> x.setKey(5, row[0], row[1], row[2]));
        }
        Check.due(1, x.setKey(5, 4, 9, 3));
        Check.due(3, x.setKey(5, 1, 1, 0));
    }

    private static void groupBeforeTheCall() {
        Check.sentence(2, "Returns its group before the call.");
        SlipstreamCache x = new SlipstreamCache();
        Check.due(0, x.setKey(8, 1, 1, 3));
        Check.due(3, x.setKey(8, 1, 1, 3));
        Check.due(3, x.setKey(8, 1, 1, 0));
        Check.due(0, x.setKey(8, 1, 1, 2));
        Check.due(0, x.setKey(24, 1, 1, 1));
    }

    private static void keyInMemory() {
        Check.sentence(2, "if it is in memory or flash");
        SlipstreamCache x = Check.withFlash();
        Check.refused(IllegalStateException.class, x, () -> x.setKey(3, 4, 1, 0));
        x.bump(0);
        Check.refused(IllegalStateException.class, x, () -> x.setKey(3, 4, 1, 0));
        x.write(2, 1, 'b');
        Check.refused(IllegalStateException.class, x, () -> x.setKey(2, 4, 1, 0));
    }

    private static void keyInFlash() {
        Check.sentence(2, "if it is in memory or flash");
        SlipstreamCache x = Check.withFlash();
        Check.due('f', x.where(0));
        Check.refused(IllegalStateException.class, x, () -> x.setKey(0, 4, 1, 0));
        x.bump(0);
        x.pass(60);
        Check.refused(IllegalStateException.class, x, () -> x.setKey(0, 4, 1, 0));
        // The old number leaves the slot, but not the index.
        x.crash();
        Check.due(0, x.recover());
        Check.due(0, x.slot(0, 0));
        Check.due(0, x.setKey(0, 1, 2, 1));
    }

    private static void keyWithLease() {
        Check.sentence(2, "or has a lease out");
        SlipstreamCache x = new SlipstreamCache();
        x.get(9, 0, 0);
        Check.refused(IllegalStateException.class, x, () -> x.setKey(9, 1, 1, 1));
        x.read(0);
        x.pass(5);
        Check.refused(IllegalStateException.class, x, () -> x.setKey(9, 1, 1, 1));
        Check.due(0, x.setKey(10, 1, 1, 1));
        x.pass(1);
        Check.due(0, x.setKey(9, 1, 1, 1));
    }

    private static void keyThatHasLeft() {
        Check.sentence(2, "Tells about a key that is in neither memory nor flash and has no lease out.");
        SlipstreamCache x = Check.withFlash();
        // Filled, but not come: the worth 1 against 3.
        Check.miss(x, 9, 1);
        Check.readAndFill(x, 4, 'n');
        Check.due(0, x.setKey(9, 2, 2, 1));
        // A mark in a slot is no slot in the index.
        x.drop(0);
        Check.slots(x, 0, 0, 100, -1, -1);
        Check.due(0, x.setKey(0, 3, 3, 2));
        x.drop(3);
        Check.due(0, x.setKey(3, 3, 3, 2));
        x.get(7, 0, 0);
        x.write(7, 1, 't');
        Check.due(0, x.setKey(7, 3, 3, 2));
    }

    private static void keyWhileDown() {
        Check.sentence(2, "or the cache is down");
        SlipstreamCache x = new SlipstreamCache();
        x.setKey(9, 1, 1, 2);
        x.crash();
        Check.refused(IllegalStateException.class, x, () -> x.setKey(9, 2, 2, 1));
        x.recover();
        Check.due(2, x.setKey(9, 2, 2, 1));
    }

    private static void firstExceptionOfSetKey() {
        Check.sentence(2, "If several exceptions apply, the exception listed first is thrown.");
        SlipstreamCache x = new SlipstreamCache();
        Check.load(x, 1);
        Check.refused(IndexOutOfBoundsException.class, x, () -> x.setKey(32, 0, 0, 4));
        Check.refused(IllegalArgumentException.class, x, () -> x.setKey(1, 1, 10, 0));
        x.crash();
        Check.refused(IndexOutOfBoundsException.class, x, () -> x.setKey(-1, 1, 1, 0));
        Check.refused(IllegalArgumentException.class, x, () -> x.setKey(1, 1, 1, 4));
    }

    private static void countersWrapAround() {
        Check.sentence(19, "The counter of a key k in the row i is the one with the lowest four bits of k times"
                + " (5, 7, 11, 13) plus 3 times i.");
        SlipstreamCache x = new SlipstreamCache();
        x.get(31, 0, 0);
        x.get(0, 0, 0);
        x.get(16, 0, 0);
        for (int key = 0; key < 32; key++) {
            Check.due(key % 16 == 15 ? 1 : key % 16 == 0 ? 2 : 0, x.estimate(key));
        }
    }

    private static void leastOfTheCounters() {
        Check.sentence(19, "The estimate of a key is the least of its counters.");
        for (int unasked = 0; unasked < 16; unasked++) {
            SlipstreamCache x = new SlipstreamCache();
            for (int other = 1; other < 16; other++) {
                for (int time = 0; time < 4; time++) {
                    x.get((unasked + other) % 16, 0, 0);
                }
            }
            for (int key = 0; key < 32; key++) {
                Check.due(key % 16 == unasked ? 0 : 4, x.estimate(key));
            }
        }
    }

    private static void countIsBehindTheAnswer() {
        Check.sentence(19, "Each get() of a key, behind all else that it does");
        SlipstreamCache x = Check.withFlash();
        // The key 0 has the estimate 2, the least worth in the memory is 3: it comes when 4 is its estimate before.
        Check.due('f', x.get(0, 0, 0));
        Check.due('f', x.where(0));
        Check.due('f', x.get(0, 0, 0));
        Check.due('f', x.where(0));
        Check.due('f', x.get(0, 0, 0));
        Check.due('m', x.where(0));
        Check.due(5, x.estimate(0));
    }

    private static void countsUpToFifteen() {
        Check.sentence(19, "makes each of its counters that is its estimate greater by 1, up to 15");
        SlipstreamCache x = new SlipstreamCache();
        for (int time = 1; time <= 20; time++) {
            x.get(4, 0, 0);
            Check.due(time < 15 ? time : 15, x.estimate(4));
        }
    }

    private static void halvingBehindSixtyFour() {
        Check.sentence(19, "behind each 64 of these, counted from the last crash, all counters are halved and cut");
        SlipstreamCache x = new SlipstreamCache();
        for (int time = 1; time <= 8; time++) {
            x.get(1, 0, 0);
        }
        for (int time = 9; time <= 63; time++) {
            x.get(2, 0, 0);
        }
        Check.due(8, x.estimate(1));
        Check.due(15, x.estimate(2));
        x.get(1, 0, 0);
        // The 64th makes 9 of 8 first, and is halved with the others.
        Check.due(4, x.estimate(1));
        Check.due(7, x.estimate(2));
    }

    private static void halvingIsCut() {
        Check.sentence(19, "all counters are halved and cut");
        SlipstreamCache x = new SlipstreamCache();
        for (int key = 1; key <= 5; key++) {
            for (int time = 0; time < key; time++) {
                x.get(key, 0, 0);
            }
        }
        for (int time = 16; time <= 64; time++) {
            x.get(9, 0, 0);
        }
        int[] halves = {0, 0, 1, 1, 2, 2};
        for (int key = 1; key <= 5; key++) {
            Check.due(halves[key], x.estimate(key));
        }
        Check.due(7, x.estimate(9));
    }

    private static void halvingAgain() {
        Check.sentence(19, "behind each 64 of these");
        SlipstreamCache x = new SlipstreamCache();
        for (int time = 1; time <= 127; time++) {
            x.get(1, 0, 0);
        }
        Check.due(15, x.estimate(1));
        x.get(2, 0, 0);
        Check.due(7, x.estimate(1));
        Check.due(0, x.estimate(2));
        for (int time = 129; time <= 192; time++) {
            x.get(3, 0, 0);
        }
        Check.due(3, x.estimate(1));
        Check.due(7, x.estimate(3));
    }

    private static void halvingFromTheLastCrash() {
        Check.sentence(19, "counted from the last crash");
        SlipstreamCache x = new SlipstreamCache();
        for (int time = 1; time <= 63; time++) {
            x.get(1, 0, 0);
        }
        x.crash();
        Check.due(0, x.estimate(1));
        x.recover();
        for (int time = 1; time <= 63; time++) {
            x.get(1, 0, 0);
        }
        Check.due(15, x.estimate(1));
        x.get(1, 0, 0);
        Check.due(7, x.estimate(1));
    }

    private static void refusedGetIsNotCounted() {
        Check.sentence(19, "A method that throws an exception changes nothing.");
        SlipstreamCache x = new SlipstreamCache();
        for (int time = 1; time <= 63; time++) {
            x.get(1, 0, 0);
        }
        Check.refused(IllegalArgumentException.class, x, () -> x.get(1, 61, 0));
        Check.refused(IndexOutOfBoundsException.class, x, () -> x.get(32, 0, 0));
        Check.due(15, x.estimate(1));
        x.get(1, 0, 0);
        Check.due(7, x.estimate(1));
    }
}
