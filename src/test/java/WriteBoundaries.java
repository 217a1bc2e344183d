/** The boundary cases of writes, dropping, groups and minutes: promises 10 to 13. */
final class WriteBoundaries {
    private static final int[] OUTSIDE = {-1, 32, Integer.MIN_VALUE, Integer.MAX_VALUE};

    private WriteBoundaries() {
    }

    static void run() {
        keysOfWrite();
        ways();
        writeWhileDown();
        fourHundredLogged();
        fourHundredWithPromises();
        fourHundredWhileDown();
        firstExceptionOfWrite();
        throughWithoutAnEntry();
        throughAPromise();
        throughIntoAnOldNumber();
        behindInThreeMinutes();
        behindAgain();
        behindVersions();
        behindTakesOutOfTheFlash();
        aroundAPromise();
        keptPromiseIsOfThen();
        turnsByMinute();
        turnsByCostAndKey();
        keysOfDrop();
        dropOfNothing();
        dropOfAPromise();
        dropOfBoth();
        dropWhileDown();
        groupsOfBump();
        bumpOfAnEmptyGroup();
        bumpWritesFirst();
        bumpLeavesTheEntries();
        bumpWhileDown();
        minutesOfPass();
        lastMinute();
        promiseAtItsMinute();
        promisesOfSeveralMinutes();
        passWhileDown();
        firstExceptionOfPass();
    }

    private static void keysOfWrite() {
        Check.sentence(10, "if there is no such key");
        SlipstreamCache x = new SlipstreamCache();
        for (int key : OUTSIDE) {
            Check.refused(IndexOutOfBoundsException.class, x, () -> x.write(key, 1, 'a'));
            Check.refused(IndexOutOfBoundsException.class, x, () -> x.write(key, 1, 'b'));
        }
        Check.due(1, x.write(0, 1, 't'));
        Check.due(1, x.write(31, 1, 't'));
    }

    private static void ways() {
        Check.sentence(10, "if there is no such way");
        SlipstreamCache x = new SlipstreamCache();
        for (char way : new char[] {0, 'T', 'B', 'A', 'c', 's', 'u', ' ', (char) 353, Character.MAX_VALUE}) {
            Check.refused(IllegalArgumentException.class, x, () -> x.write(3, 1, way));
        }
        Check.due(1, x.write(3, 1, 't'));
        Check.due(2, x.write(3, 1, 'a'));
        Check.due(2, x.write(3, 1, 'b'));
    }

    private static void writeWhileDown() {
        Check.sentence(10, "if the cache is down, and the way is not 'a'");
        SlipstreamCache x = new SlipstreamCache();
        x.crash();
        Check.refused(IllegalStateException.class, x, () -> x.write(3, 1, 't'));
        Check.refused(IllegalStateException.class, x, () -> x.write(3, 1, 'b'));
        Check.due(1, x.write(3, 7, 'a'));
        Check.due(7, x.stored(3));
        Check.due(1, x.messages());
        x.recover();
        Check.due(2, x.write(3, 8, 't'));
    }

    private static void fourHundredLogged() {
        Check.sentence(10, "or 400 writes are logged or promised");
        SlipstreamCache x = new SlipstreamCache();
        for (int write = 1; write <= 399; write++) {
            x.write(write % 32, write, 'a');
        }
        Check.due(13, x.write(16, 400, 't'));
        for (char way : new char[] {'t', 'b', 'a'}) {
            Check.refused(IllegalStateException.class, x, () -> x.write(5, 1, way));
        }
        Check.due(400, x.messages());
        Check.due(true, x.deliver(399));
        Check.refused(IllegalStateException.class, x, () -> x.write(5, 1, 'a'));
    }

    private static void fourHundredWithPromises() {
        Check.sentence(10, "or 400 writes are logged or promised");
        SlipstreamCache x = new SlipstreamCache();
        for (int write = 1; write <= 398; write++) {
            x.write(31, write, 'a');
        }
        x.write(1, 1, 'b');
        // One more of the same key does not make one more that is promised.
        x.write(1, 2, 'b');
        x.write(2, 3, 'b');
        for (char way : new char[] {'t', 'b', 'a'}) {
            Check.refused(IllegalStateException.class, x, () -> x.write(1, 4, way));
            Check.refused(IllegalStateException.class, x, () -> x.write(3, 4, way));
        }
        Check.due(2, x.pass(3));
        Check.due(400, x.messages());
        Check.due(2, x.stored(1));
        Check.refused(IllegalStateException.class, x, () -> x.write(1, 4, 'a'));
    }

    private static void fourHundredWhileDown() {
        Check.sentence(10, "or 400 writes are logged or promised");
        SlipstreamCache x = new SlipstreamCache();
        x.write(1, 1, 'b');
        x.crash();
        for (int write = 1; write <= 399; write++) {
            x.write(31, write, 'a');
        }
        Check.refused(IllegalStateException.class, x, () -> x.write(31, 0, 'a'));
        x.recover();
        Check.due(1, x.stored(1));
        Check.due(400, x.messages());
        Check.refused(IllegalStateException.class, x, () -> x.write(31, 0, 'a'));
    }

    private static void firstExceptionOfWrite() {
        Check.sentence(10, "If several exceptions apply, the exception listed first is thrown.");
        SlipstreamCache x = new SlipstreamCache();
        for (int key = 0; key < 12; key++) {
            x.write(key, 1, 'b');
        }
        Check.refused(UnsupportedOperationException.class, x, () -> x.write(12, 1, 'b'));
        for (int write = 1; write <= 388; write++) {
            x.write(31, write, 'a');
        }
        Check.refused(IllegalStateException.class, x, () -> x.write(12, 1, 'b'));
        Check.refused(IllegalArgumentException.class, x, () -> x.write(12, 1, 'q'));
        Check.refused(IndexOutOfBoundsException.class, x, () -> x.write(32, 1, 'q'));
        x.crash();
        Check.refused(IllegalStateException.class, x, () -> x.write(12, 1, 't'));
        Check.refused(IllegalArgumentException.class, x, () -> x.write(12, 1, 'q'));
    }

    private static void throughWithoutAnEntry() {
        Check.sentence(10, "Through the cache, the store is written, an entry of the memory has the new value and version");
        SlipstreamCache x = Check.withFlash();
        Check.due(1, x.write(20, 7, 't'));
        Check.due('-', x.where(20));
        Check.due(2, x.write(0, 7, 't'));
        Check.due('-', x.where(0));
        Check.slots(x, 0, 0, 100, -1, -1);
        x.pass(9);
        Check.due(2, x.write(1, 8, 't'));
        Check.due(2, x.versionOf(1));
        Check.due('m', x.get(1, 0, 0));
        Check.due(8, x.value());
        Check.due(0, x.staleness());
    }

    private static void throughAPromise() {
        Check.sentence(10, "and is not promised any more");
        SlipstreamCache x = new SlipstreamCache();
        x.write(5, 50, 'b');
        Check.due(1, x.write(5, 51, 't'));
        Check.due('m', x.where(5));
        Check.due(0, x.promises());
        Check.due(0, x.pass(3));
        Check.due(51, x.stored(5));
        Check.due(1, x.messages());
    }

    private static void throughIntoAnOldNumber() {
        Check.sentence(10, "the minute and the present number of the group");
        SlipstreamCache x = new SlipstreamCache();
        Check.load(x, 5);
        x.bump(0);
        x.pass(7);
        x.write(5, 1, 't');
        Check.due('m', x.get(5, 0, 0));
        x.bump(0);
        x.write(5, 2, 'b');
        Check.due(1, x.pass(3));
        Check.due('m', x.get(5, 0, 0));
        Check.due(2, x.value());
    }

    private static void behindInThreeMinutes() {
        Check.sentence(10, "otherwise it is written in 3 minutes");
        SlipstreamCache x = new SlipstreamCache();
        x.pass(4);
        x.write(5, 50, 'b');
        Check.due(0, x.pass(2));
        Check.due(0, x.stored(5));
        Check.due(1, x.pass(1));
        Check.due(50, x.stored(5));
        Check.due(0, x.pass(60));
        Check.due(1, x.messages());
    }

    private static void behindAgain() {
        Check.sentence(10, "if it was promised already, it has the minute of now, but stays in its turn");
        SlipstreamCache x = new SlipstreamCache();
        x.write(5, 50, 'b');
        x.pass(1);
        x.write(4, 40, 'b');
        x.pass(1);
        x.write(5, 51, 'b');
        Check.due(2, x.promises());
        Check.due(5, x.nextPromise());
        Check.due(1, x.pass(1));
        Check.due(51, x.stored(5));
        Check.due(4, x.nextPromise());
        // It is not written a second time.
        Check.due(1, x.pass(60));
        Check.due(2, x.messages());
    }

    private static void behindVersions() {
        Check.sentence(10, "the version of the store plus 1");
        SlipstreamCache x = new SlipstreamCache();
        Check.due(0, x.write(5, 50, 'b'));
        Check.due(1, x.versionOf(5));
        Check.due(0, x.write(5, 51, 'b'));
        Check.due(1, x.versionOf(5));
        Check.due(1, x.write(5, 52, 'a'));
        Check.due(1, x.versionOf(5));
        Check.due(1, x.write(5, 53, 'b'));
        Check.due(2, x.versionOf(5));
    }

    private static void behindTakesOutOfTheFlash() {
        Check.sentence(10, "the key is taken out of the flash");
        SlipstreamCache x = Check.withFlash();
        x.drop(1);
        x.write(0, 1, 'b');
        Check.slots(x, 0, 0, 100, -1, -1);
        // For the key 1 now 2 goes first, and then no mark is due.
        x.write(1, 1, 'b');
        Check.slots(x, 0, 0, 100, 2, -1);
        // For the key 2, 3 goes, and then 2 is taken out.
        x.write(2, 1, 'b');
        Check.slots(x, 0, 0, 100, 2, 3);
        Check.slots(x, 1, 102, -1, -1, -1);
    }

    private static void aroundAPromise() {
        Check.sentence(10, "Around the cache, only the store is written.");
        SlipstreamCache x = new SlipstreamCache();
        x.write(5, 50, 'b');
        x.pass(1);
        Check.due(1, x.write(5, 60, 'a'));
        Check.due(60, x.stored(5));
        Check.due('p', x.where(5));
        Check.due('m', x.get(5, 0, 0));
        Check.due(50, x.value());
        Check.due(0, x.staleness());
        Check.due(1, x.pass(2));
        Check.due(50, x.stored(5));
        Check.due(2, x.versionOf(5));
    }

    private static void keptPromiseIsOfThen() {
        Check.sentence(10, "it is not promised any more, and it has the version and the minute of then");
        SlipstreamCache x = new SlipstreamCache();
        x.write(5, 50, 'b');
        x.write(5, 60, 'a');
        x.write(5, 61, 'a');
        Check.due(1, x.pass(4));
        Check.due('m', x.where(5));
        Check.due(3, x.versionOf(5));
        Check.due('l', x.get(5, 0, 0));
        Check.due('m', x.get(5, 1, 0));
        Check.due(50, x.value());
        Check.due(0, x.staleness());
    }

    private static void turnsByMinute() {
        Check.sentence(25, "The turns of promises go by their minutes");
        SlipstreamCache x = new SlipstreamCache();
        x.setKey(9, 1, 9, 0);
        x.write(31, 1, 'b');
        x.pass(1);
        x.write(9, 1, 'b');
        x.write(0, 1, 'b');
        Check.due(31, x.nextPromise());
        x.drop(31);
        Check.due(9, x.nextPromise());
    }

    private static void turnsByCostAndKey() {
        Check.sentence(25, "of several by the greatest cost first, of several by the lowest key");
        SlipstreamCache x = new SlipstreamCache();
        int[] keys = {31, 7, 0, 20, 8};
        int[] costs = {3, 9, 1, 9, 3};
        int[] turns = {7, 20, 8, 31, 0};
        for (int at = 0; at < 5; at++) {
            x.setKey(keys[at], 1, costs[at], 0);
            x.write(keys[at], keys[at], 'b');
        }
        x.pass(2);
        for (int key : turns) {
            Check.due(key, x.nextPromise());
            x.drop(key);
        }
        Check.due(0, x.promises());
    }

    private static void keysOfDrop() {
        Check.sentence(11, "if there is no such key");
        SlipstreamCache x = new SlipstreamCache();
        for (int key : OUTSIDE) {
            Check.refused(IndexOutOfBoundsException.class, x, () -> x.drop(key));
        }
        Check.load(x, 0);
        Check.load(x, 31);
        Check.due(true, x.drop(0));
        Check.due(true, x.drop(31));
    }

    private static void dropOfNothing() {
        Check.sentence(11, "Returns whether it was in memory or flash.");
        SlipstreamCache x = Check.withFlash();
        Check.due(false, x.drop(9));
        Check.due(true, x.drop(0));
        Check.due(false, x.drop(0));
        Check.due(true, x.drop(1));
        Check.due(false, x.drop(1));
        x.get(9, 0, 0);
        Check.due(false, x.drop(9));
        Check.due(8, x.used());
    }

    private static void dropOfAPromise() {
        Check.sentence(11, "When a key is dropped, a promised entry of it is written first; then it is in neither memory nor"
                + " flash.");
        SlipstreamCache x = new SlipstreamCache();
        x.write(5, 50, 'b');
        x.write(6, 60, 'b');
        x.pass(1);
        Check.due(true, x.drop(5));
        Check.due(50, x.stored(5));
        Check.due('-', x.where(5));
        Check.due(1, x.promises());
        Check.due(0, x.stored(6));
        Check.due(1, x.pass(5));
        Check.due(2, x.messages());
    }

    private static void dropOfBoth() {
        Check.sentence(11, "then it is in neither memory nor flash");
        SlipstreamCache x = Check.flashOf(1);
        x.crash();
        Check.due(1, x.recover());
        Check.due('m', x.where(0));
        Check.due(true, x.drop(0));
        Check.due('-', x.where(0));
        Check.slots(x, 0, 0, 100, -1, -1);
        Check.due(0, x.used());
    }

    private static void dropWhileDown() {
        Check.sentence(11, "if the cache is down");
        SlipstreamCache x = Check.withFlash();
        x.write(1, 1, 'b');
        x.crash();
        Check.refused(IllegalStateException.class, x, () -> x.drop(1));
        Check.refused(IllegalStateException.class, x, () -> x.drop(31));
        Check.refused(IndexOutOfBoundsException.class, x, () -> x.drop(32));
    }

    private static void groupsOfBump() {
        Check.sentence(12, "if there is no such group");
        SlipstreamCache x = new SlipstreamCache();
        for (int group : new int[] {-1, 4, Integer.MIN_VALUE, Integer.MAX_VALUE}) {
            Check.refused(IndexOutOfBoundsException.class, x, () -> x.bump(group));
        }
        Check.due(1, x.bump(0));
        Check.due(1, x.bump(3));
    }

    private static void bumpOfAnEmptyGroup() {
        Check.sentence(12, "Gives a group a new number.");
        SlipstreamCache x = new SlipstreamCache();
        x.write(5, 50, 'b');
        for (int number = 1; number <= 100; number++) {
            Check.due(number, x.bump(3));
        }
        Check.due(1, x.promises());
        Check.due(0, x.setKey(6, 1, 1, 3));
        Check.load(x, 6);
        Check.due('m', x.get(6, 0, 0));
    }

    private static void bumpWritesFirst() {
        Check.sentence(12, "promised entries of its keys are written first, in the order of their turns");
        SlipstreamCache x = new SlipstreamCache();
        int[] costs = {1, 2, 2, 1};
        for (int key = 0; key < 4; key++) {
            x.setKey(key, 1, costs[key], 1);
        }
        x.write(3, 30, 'b');
        x.pass(1);
        x.write(2, 20, 'b');
        x.write(1, 10, 'b');
        x.write(0, 5, 'b');
        x.write(9, 90, 'b');
        Check.due(1, x.bump(1));
        Check.due(4, x.messages());
        Check.due(1, x.promises());
        Check.due(9, x.nextPromise());
        int[] turns = {3, 1, 2, 0};
        for (int key : turns) {
            Check.due(0, x.mirrored(key));
            Check.due(true, x.deliver(0));
            Check.due(true, x.mirrored(key) != 0);
        }
    }

    private static void bumpLeavesTheEntries() {
        Check.sentence(12, "all of its entries stay where they are, but are good no more");
        SlipstreamCache x = Check.withFlash();
        x.write(1, 7, 'b');
        Check.due(1, x.bump(0));
        Check.due('f', x.where(0));
        Check.due('m', x.where(1));
        Check.due('m', x.where(2));
        Check.due(12, x.used());
        Check.slots(x, 0, 0, -1, -1, -1);
        for (int key = 0; key < 3; key++) {
            Check.due('l', x.get(key, 60, 60));
            Check.due('w', x.get(key, 60, 60));
        }
    }

    private static void bumpWhileDown() {
        Check.sentence(12, "if the cache is down");
        SlipstreamCache x = new SlipstreamCache();
        x.write(1, 1, 'b');
        x.crash();
        Check.refused(IllegalStateException.class, x, () -> x.bump(0));
        Check.refused(IndexOutOfBoundsException.class, x, () -> x.bump(-1));
        x.recover();
        Check.due(1, x.bump(0));
    }

    private static void minutesOfPass() {
        Check.sentence(13, "the minutes, 1 to 60");
        SlipstreamCache x = new SlipstreamCache();
        Check.due(0, x.pass(1));
        Check.due(0, x.pass(60));
        Check.due(61, x.minute());
        Check.sentence(13, "if the number is out of range");
        for (int minutes : new int[] {0, 61, -1, Integer.MIN_VALUE, Integer.MAX_VALUE}) {
            Check.refused(IllegalArgumentException.class, x, () -> x.pass(minutes));
        }
    }

    /** 4980 minutes have passed. */
    private static SlipstreamCache nearTheEnd() {
        SlipstreamCache x = new SlipstreamCache();
        for (int hour = 0; hour < 83; hour++) {
            x.pass(60);
        }
        return x;
    }

    private static void lastMinute() {
        Check.sentence(13, "if the minute would be greater than 5000");
        SlipstreamCache x = nearTheEnd();
        Check.refused(IllegalStateException.class, x, () -> x.pass(21));
        Check.refused(IllegalStateException.class, x, () -> x.pass(60));
        Check.due(0, x.pass(19));
        Check.refused(IllegalStateException.class, x, () -> x.pass(2));
        x.write(1, 1, 'b');
        Check.due(0, x.pass(1));
        Check.due(5000, x.minute());
        Check.refused(IllegalStateException.class, x, () -> x.pass(1));
        Check.due(1, x.promises());
        // What is promised there is written by a new number still.
        Check.due(1, x.bump(0));
        Check.due(1, x.stored(1));
        x.crash();
        Check.refused(IllegalStateException.class, x, () -> x.pass(1));
    }

    private static void firstExceptionOfPass() {
        Check.sentence(13, "If several exceptions apply, the exception listed first is thrown.");
        SlipstreamCache x = nearTheEnd();
        Check.refused(IllegalArgumentException.class, x, () -> x.pass(61));
        Check.refused(IllegalArgumentException.class, x, () -> x.pass(Integer.MAX_VALUE));
    }

    private static void promiseAtItsMinute() {
        Check.sentence(13, "at the beginning of each one, promises whose minute it is are written");
        SlipstreamCache x = new SlipstreamCache();
        x.write(5, 50, 'b');
        x.get(6, 0, 0);
        Check.due(1, x.pass(60));
        // It was written in the minute 3, not in the last one.
        Check.due('l', x.get(5, 56, 0));
        Check.due('m', x.get(5, 57, 0));
        x.write(5, 51, 'a');
        x.pass(1);
        x.get(5, 60, 0);
        Check.due(1, x.staleness());
    }

    private static void promisesOfSeveralMinutes() {
        Check.sentence(13, "Returns the number of promises that are written.");
        SlipstreamCache x = new SlipstreamCache();
        for (int key = 0; key < 12; key++) {
            x.write(key, key + 1, 'b');
            if (key % 6 == 5) {
                x.pass(1);
            }
        }
        Check.due(6, x.pass(1));
        Check.due(6, x.pass(1));
        Check.due(0, x.pass(1));
        for (int key = 0; key < 12; key++) {
            x.write(key, key + 1, 'b');
        }
        Check.due(12, x.pass(60));
        Check.due(24, x.messages());
    }

    private static void passWhileDown() {
        Check.sentence(13, "if the cache is not down");
        SlipstreamCache x = new SlipstreamCache();
        x.write(5, 50, 'b');
        x.crash();
        Check.due(0, x.pass(60));
        Check.due(60, x.minute());
        Check.due(1, x.promises());
        Check.due(0, x.stored(5));
        x.recover();
        Check.due(50, x.stored(5));
        Check.due(0, x.pass(60));
    }
}
