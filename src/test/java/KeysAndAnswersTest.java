import java.util.NoSuchElementException;

/** Promises 1 to 9: a new object, keys, answers and leases. */
public final class KeysAndAnswersTest {
    public static void main(String[] args) {
        newObject();
        setKey();
        setKeyRefuses();
        getAnswers();
        getRefuses();
        goodByMinutesAndGroup();
        memoryByWorth();
        severalGoInTheirOrder();
        ownEntryCountsAsRoom();
        flashAnswers();
        flashAnswerWhoseSegmentIsBegunAnew();
        staleAnswers();
        valueAndStaleness();
        leaseNumbers();
        read();
        fill();
        leaseState();
        Check.end("KeysAndAnswersTest");
    }

    /** Promise 1. */
    private static void newObject() {
        SlipstreamCache other = new SlipstreamCache();
        other.write(0, 5, 'b');
        other.pass(60);
        SlipstreamCache x = new SlipstreamCache();
        for (int key = 0; key < 32; key++) {
            Check.due('-', x.where(key));
            Check.due(0, x.stored(key));
            Check.due(0, x.mirrored(key));
            Check.due(0, x.estimate(key));
        }
        for (int segment = 0; segment < 4; segment++) {
            Check.slots(x, segment, -1, -1, -1, -1);
            Check.due(0, x.wear(segment));
        }
        Check.due(0, x.minute());
        Check.due(0, x.used());
        Check.due(0, x.promises());
        Check.due(0, x.messages());
        Check.due(0L, x.paid());
        Check.due(true, x.isHonest());
    }

    /** Promise 2. */
    private static void setKey() {
        SlipstreamCache x = new SlipstreamCache();
        Check.due(0, x.setKey(31, 4, 9, 3));
        Check.due(3, x.setKey(31, 1, 1, 0));
        Check.due(0, x.setKey(31, 3, 7, 1));
        Check.due(0, x.setKey(0, 1, 1, 2));
        Check.due(2, x.setKey(0, 1, 1, 2));
        Check.due('i', Check.load(x, 31));
        Check.due(3, x.used());
        Check.due(7L, x.paid());
        Check.due('i', Check.load(x, 1));
        Check.due(4, x.used());
        Check.due(8L, x.paid());
        Check.due('-', x.where(30));
    }

    private static void setKeyRefuses() {
        SlipstreamCache x = new SlipstreamCache();
        Check.throwing(IndexOutOfBoundsException.class, () -> x.setKey(-1, 0, 0, 9));
        Check.throwing(IndexOutOfBoundsException.class, () -> x.setKey(32, 1, 1, 0));
        int[][] wrong = {{0, 1, 1}, {5, 1, 1}, {1, 0, 1}, {1, 10, 1}, {1, 1, -1}, {1, 1, 4}, {Integer.MIN_VALUE, 1, 1},
            {1, Integer.MAX_VALUE, 1}};
        for (int[] row : wrong) {
            Check.throwing(IllegalArgumentException.class, () -> x.setKey(0, row[0], row[1], row[2]));
        }
        Check.due(0, x.setKey(0, 1, 1, 2));
        x.get(0, 0, 0);
        Check.throwing(IllegalStateException.class, () -> x.setKey(0, 2, 2, 1));
        Check.throwing(IllegalArgumentException.class, () -> x.setKey(0, 2, 2, 4));
        x.pass(5);
        Check.throwing(IllegalStateException.class, () -> x.setKey(0, 2, 2, 1));
        x.pass(1);
        Check.due(2, x.setKey(0, 2, 2, 1));
        Check.load(x, 0);
        Check.throwing(IllegalStateException.class, () -> x.setKey(0, 2, 2, 1));
        x.drop(0);
        Check.due(1, x.setKey(0, 2, 2, 0));
        x.write(0, 1, 'b');
        Check.throwing(IllegalStateException.class, () -> x.setKey(0, 2, 2, 1));
        x.crash();
        Check.throwing(IllegalStateException.class, () -> x.setKey(0, 2, 2, 1));
        Check.throwing(IllegalStateException.class, () -> x.setKey(9, 2, 2, 1));
        Check.throwing(IllegalArgumentException.class, () -> x.setKey(9, 2, 2, 9));
        x.recover();
        Check.due(0, x.setKey(0, 2, 2, 1));
        SlipstreamCache y = Check.withFlash();
        Check.throwing(IllegalStateException.class, () -> y.setKey(0, 1, 1, 0));
        y.drop(0);
        Check.due(0, y.setKey(0, 1, 1, 0));
    }

    /** Promise 3. */
    private static void getAnswers() {
        SlipstreamCache x = new SlipstreamCache();
        Check.due('l', x.get(7, 0, 0));
        Check.due('w', x.get(7, 60, 60));
        Check.due('l', x.get(8, 60, 60));
        Check.readAndFill(x, 0, 'i');
        Check.due('m', x.get(7, 0, 0));
        Check.due(3, x.estimate(7));
        Check.due(1, x.estimate(8));
        x.write(9, 1, 'b');
        x.pass(2);
        Check.due('m', x.get(9, 0, 0));
    }

    private static void getRefuses() {
        SlipstreamCache x = new SlipstreamCache();
        Check.throwing(IndexOutOfBoundsException.class, () -> x.get(-1, 61, 0));
        Check.throwing(IndexOutOfBoundsException.class, () -> x.get(32, 0, 0));
        Check.throwing(IllegalArgumentException.class, () -> x.get(0, -1, 0));
        Check.throwing(IllegalArgumentException.class, () -> x.get(0, 61, 0));
        Check.throwing(IllegalArgumentException.class, () -> x.get(0, 0, -1));
        Check.throwing(IllegalArgumentException.class, () -> x.get(0, 0, 61));
        for (int key = 0; key < 32; key++) {
            Check.due('l', x.get(key, 60, 60));
        }
        x.pass(6);
        for (int key = 0; key < 28; key++) {
            Check.due('l', x.get(key, 60, 60));
        }
        Check.readAndFill(x, 32, 'i');
        Check.throwing(UnsupportedOperationException.class, () -> x.get(28, 60, 60));
        Check.due('w', x.get(1, 60, 60));
        Check.due('m', x.get(0, 60, 60));
        Check.throwing(UnsupportedOperationException.class, () -> x.get(28, 60, 60));
        Check.due(0, x.value());
        Check.throwing(IllegalArgumentException.class, () -> x.get(28, 60, 61));
        Check.due(59, x.lease());
        Check.due(60L, x.paid());
        // The keys 12 and 28 have the same counters: 12 was asked for twice, 28 once and refused thrice.
        Check.due(3, x.estimate(28));
        x.crash();
        Check.throwing(IllegalArgumentException.class, () -> x.get(0, 61, 0));
        Check.throwing(IllegalStateException.class, () -> x.get(28, 0, 0));
    }

    private static void goodByMinutesAndGroup() {
        SlipstreamCache x = new SlipstreamCache();
        x.setKey(4, 1, 1, 2);
        Check.load(x, 4);
        x.pass(60);
        Check.due('m', x.get(4, 60, 0));
        x.bump(1);
        Check.due('m', x.get(4, 60, 0));
        Check.due('l', x.get(4, 59, 0));
        Check.due('w', x.get(4, 59, 0));
        Check.due('s', x.get(4, 59, 1));
        Check.due('m', x.get(4, 60, 0));
        x.bump(2);
        Check.due('m', x.where(4));
        Check.due('l', x.get(4, 60, 60));
        Check.due('w', x.get(4, 60, 60));
        Check.readAndFill(x, 2, 'i');
        Check.due('m', x.get(4, 0, 0));
    }

    private static void memoryByWorth() {
        SlipstreamCache x = new SlipstreamCache();
        for (int key = 0; key < 5; key++) {
            x.setKey(key, 4, key == 1 ? 2 : 1, 0);
        }
        Check.miss(x, 1, 2);
        Check.miss(x, 0, 1);
        Check.miss(x, 2, 1);
        Check.readAndFill(x, 2, 'i');
        Check.readAndFill(x, 0, 'i');
        Check.readAndFill(x, 1, 'i');
        // The worths are 1, 4, 1, and the key 2 was used longest ago.
        Check.miss(x, 3, 1);
        Check.readAndFill(x, 3, 'n');
        Check.due('f', x.leaseState(3));
        Check.due('-', x.where(3));
        Check.due('l', x.get(3, 0, 0));
        Check.readAndFill(x, 4, 'i');
        Check.due('-', x.where(2));
        Check.due('m', x.where(0));
        Check.due(12, x.used());
        Check.slots(x, 0, -1, -1, -1, -1);
        // 0 has the least worth now, 1.
        Check.miss(x, 4, 3);
        Check.readAndFill(x, 5, 'i');
        Check.due('-', x.where(0));
        // An answer is a use: 3 was used behind 4 in spite of its earlier coming.
        Check.due('m', x.get(3, 0, 0));
        Check.due(3, x.estimate(3));
        Check.due(3, x.estimate(4));
        Check.miss(x, 2, 3);
        Check.readAndFill(x, 6, 'i');
        Check.due('f', x.where(4));
        Check.due('m', x.where(3));
        Check.due(4, x.slot(0, 0));
    }

    private static void severalGoInTheirOrder() {
        SlipstreamCache x = new SlipstreamCache();
        int[] sizes = {3, 3, 3, 3};
        int[] times = {4, 2, 3, 5};
        for (int key = 0; key < 4; key++) {
            x.setKey(key, sizes[key], 1, 0);
            Check.miss(x, key, times[key]);
            Check.readAndFill(x, key, 'i');
        }
        x.setKey(4, 4, 1, 0);
        Check.miss(x, 4, 5);
        Check.readAndFill(x, 4, 'n');
        Check.due(12, x.used());
        Check.miss(x, 4, 1);
        Check.readAndFill(x, 5, 'i');
        Check.slots(x, 0, 1, 2, -1, -1);
        Check.due(1, x.wear(0));
        Check.due(10, x.used());
        Check.due('m', x.where(0));
        Check.due('m', x.where(3));
    }

    private static void ownEntryCountsAsRoom() {
        SlipstreamCache x = Check.withFlash();
        x.write(1, 5, 'a');
        x.pass(1);
        Check.due('l', x.get(1, 0, 0));
        Check.readAndFill(x, 4, 'i');
        Check.due(12, x.used());
        Check.due(2, x.versionOf(1));
        Check.slots(x, 0, 0, -1, -1, -1);
        Check.due('m', x.get(1, 0, 0));
        Check.due(5, x.value());
    }

    private static void flashAnswers() {
        SlipstreamCache x = Check.withFlash();
        Check.due('f', x.get(0, 0, 0));
        Check.due('f', x.get(0, 0, 0));
        Check.due('f', x.where(0));
        Check.slots(x, 0, 0, -1, -1, -1);
        // With the worth 4 it comes, the entry used longest ago goes, and the mark stands behind that.
        Check.due(4, x.estimate(0));
        Check.due('f', x.get(0, 0, 0));
        Check.due(10, x.value());
        Check.due('m', x.where(0));
        Check.due('f', x.where(1));
        Check.slots(x, 0, 0, 1, 100, -1);
        Check.due('m', x.get(0, 0, 0));
        x.bump(0);
        Check.due('l', x.get(1, 60, 60));
        Check.due('f', x.where(1));
        // What is filled is not taken out of the flash by that.
        Check.readAndFill(x, 4, 'i');
        Check.due('m', x.where(1));
        Check.slots(x, 0, 0, 1, 100, 2);
        Check.slots(x, 1, -1, -1, -1, -1);
    }

    /** The entry that comes from the flash loses its slot to the one that goes: no mark is due. */
    private static void flashAnswerWhoseSegmentIsBegunAnew() {
        SlipstreamCache x = Check.withFlash();
        x.setKey(4, 4, 1, 0);
        Check.miss(x, 4, 3);
        // Each write behind makes an entry go to the flash, and takes its key out of it.
        int[] written = {4, 1, 2, 4, 1, 2, 4, 1};
        for (int key : written) {
            x.write(key, 10 + key, 'b');
            Check.due(1, x.pass(3));
        }
        Check.slots(x, 0, 0, 1, 2, 101);
        Check.slots(x, 1, 4, 102, 1, 104);
        Check.slots(x, 2, 2, 101, 4, 102);
        Check.slots(x, 3, 1, 104, 2, 101);
        Check.miss(x, 0, 2);
        Check.due('f', x.get(0, 24, 0));
        Check.due(10, x.value());
        Check.due('m', x.where(0));
        Check.due('f', x.where(4));
        Check.slots(x, 0, 4, -1, -1, -1);
        Check.due(2, x.wear(0));
        Check.due(1, x.versionOf(0));
        Check.due('m', x.get(0, 24, 0));
        Check.due(10, x.value());
    }

    private static void staleAnswers() {
        SlipstreamCache x = Check.withFlash();
        x.pass(4);
        Check.due('l', x.get(0, 3, 60));
        Check.due('w', x.get(0, 3, 0));
        Check.due('w', x.get(0, 2, 1));
        Check.due(5, x.estimate(0));
        Check.due('s', x.get(0, 3, 1));
        Check.due('m', x.where(0));
        Check.slots(x, 0, 0, 1, 100, -1);
        Check.due('s', x.get(0, 0, 4));
        Check.due('f', x.get(1, 4, 0));
        Check.due('w', x.get(0, 0, 3));
    }

    /** Promises 4 and 5. */
    private static void valueAndStaleness() {
        SlipstreamCache x = new SlipstreamCache();
        Check.throwing(NoSuchElementException.class, () -> x.value());
        Check.throwing(NoSuchElementException.class, () -> x.staleness());
        x.write(3, -77, 't');
        Check.load(x, 3);
        Check.throwing(NoSuchElementException.class, () -> x.value());
        Check.throwing(NoSuchElementException.class, () -> x.staleness());
        Check.due('m', x.get(3, 0, 0));
        Check.due(-77, x.value());
        Check.due(0, x.staleness());
        x.pass(2);
        x.write(3, 5, 'a');
        x.pass(3);
        x.write(3, 6, 'a');
        x.pass(4);
        Check.due(0, x.staleness());
        Check.due('m', x.get(3, 9, 0));
        // The version behind its own was written in the minute 2.
        Check.due(7, x.staleness());
        Check.due(-77, x.value());
        x.pass(1);
        x.write(3, 8, 't');
        Check.due(7, x.staleness());
        Check.due(-77, x.value());
        x.crash();
        Check.due(-77, x.value());
        Check.due(7, x.staleness());
        Check.throwing(IllegalStateException.class, () -> x.get(3, 0, 0));
        Check.due(-77, x.value());
        x.recover();
        x.write(4, 9, 'b');
        x.write(4, 10, 'a');
        x.write(4, 11, 'a');
        x.pass(2);
        Check.due('m', x.get(4, 0, 0));
        Check.due(0, x.staleness());
        Check.due(9, x.value());
        Check.due('l', x.get(3, 0, 0));
        Check.throwing(NoSuchElementException.class, () -> x.value());
        Check.due('w', x.get(3, 0, 0));
        Check.throwing(NoSuchElementException.class, () -> x.staleness());
    }

    /** Promise 6. */
    private static void leaseNumbers() {
        SlipstreamCache x = new SlipstreamCache();
        Check.throwing(NoSuchElementException.class, () -> x.lease());
        x.get(5, 0, 0);
        Check.due(0, x.lease());
        x.get(5, 0, 0);
        Check.due(0, x.lease());
        x.get(6, 0, 0);
        Check.due(1, x.lease());
        x.crash();
        Check.due(1, x.lease());
    }

    /** Promise 7. */
    private static void read() {
        SlipstreamCache x = new SlipstreamCache();
        Check.throwing(IndexOutOfBoundsException.class, () -> x.read(0));
        x.write(1, 11, 'a');
        for (int key = 0; key < 8; key++) {
            x.setKey(key, 1, 1, key == 4 ? 1 : 0);
            x.get(key, 0, 0);
        }
        Check.throwing(IndexOutOfBoundsException.class, () -> x.read(-1));
        Check.throwing(IndexOutOfBoundsException.class, () -> x.read(8));
        Check.due(11, x.read(1));
        Check.throwing(IllegalStateException.class, () -> x.read(1));
        x.write(2, 1, 't');
        Check.throwing(IllegalStateException.class, () -> x.read(2));
        x.write(3, 1, 'b');
        Check.throwing(IllegalStateException.class, () -> x.read(3));
        x.bump(1);
        Check.throwing(IllegalStateException.class, () -> x.read(4));
        Check.due(false, x.drop(5));
        Check.throwing(IllegalStateException.class, () -> x.read(5));
        x.write(6, 13, 'a');
        x.pass(5);
        Check.due(13, x.read(6));
        x.pass(1);
        Check.throwing(IllegalStateException.class, () -> x.read(7));
        x.get(0, 0, 0);
        Check.due(0, x.read(8));
        x.fill(8);
        Check.throwing(IllegalStateException.class, () -> x.read(8));
        x.get(20, 0, 0);
        x.crash();
        Check.throwing(IllegalStateException.class, () -> x.read(9));
        x.recover();
        Check.throwing(IllegalStateException.class, () -> x.read(9));
    }

    /** Promise 8. */
    private static void fill() {
        SlipstreamCache x = new SlipstreamCache();
        Check.throwing(IndexOutOfBoundsException.class, () -> x.fill(0));
        x.write(2, 7, 'a');
        x.get(2, 0, 0);
        Check.throwing(IndexOutOfBoundsException.class, () -> x.fill(-1));
        Check.throwing(IndexOutOfBoundsException.class, () -> x.fill(1));
        Check.throwing(IllegalStateException.class, () -> x.fill(0));
        x.pass(1);
        x.read(0);
        x.write(2, 8, 'a');
        x.pass(4);
        // The value, version and minute are those of the reading.
        Check.due('i', x.fill(0));
        Check.due(1, x.versionOf(2));
        Check.due('m', x.get(2, 4, 0));
        Check.due(7, x.value());
        Check.due(4, x.staleness());
        Check.due('l', x.get(2, 3, 0));
        Check.throwing(IllegalStateException.class, () -> x.fill(0));
        Check.throwing(IllegalStateException.class, () -> x.fill(1));
        x.read(1);
        x.drop(2);
        Check.due('x', x.fill(1));
        Check.due('x', x.fill(1));
        Check.due('-', x.where(2));
        x.get(2, 0, 0);
        x.write(2, 9, 't');
        Check.throwing(IllegalStateException.class, () -> x.fill(2));
        x.get(3, 0, 0);
        x.read(3);
        x.pass(6);
        Check.due('x', x.fill(3));
        Check.due('-', x.where(3));
        x.get(3, 0, 0);
        x.read(4);
        x.bump(0);
        Check.due('x', x.fill(4));
        x.get(3, 0, 0);
        x.read(5);
        x.write(3, 1, 'b');
        Check.due('x', x.fill(5));
        x.get(4, 0, 0);
        x.read(6);
        x.crash();
        Check.due('x', x.fill(6));
        x.recover();
        Check.due('x', x.fill(6));
        Check.due('-', x.where(4));
    }

    /** Promise 9. */
    private static void leaseState() {
        SlipstreamCache x = new SlipstreamCache();
        Check.throwing(IndexOutOfBoundsException.class, () -> x.leaseState(0));
        x.get(0, 0, 0);
        x.get(1, 0, 0);
        x.get(2, 0, 0);
        Check.throwing(IndexOutOfBoundsException.class, () -> x.leaseState(-1));
        Check.throwing(IndexOutOfBoundsException.class, () -> x.leaseState(3));
        Check.due('o', x.leaseState(0));
        x.read(1);
        Check.due('r', x.leaseState(1));
        x.read(2);
        x.fill(2);
        Check.due('f', x.leaseState(2));
        x.pass(5);
        Check.due('o', x.leaseState(0));
        Check.due('r', x.leaseState(1));
        x.pass(1);
        Check.due('x', x.leaseState(0));
        Check.due('x', x.leaseState(1));
        Check.due('f', x.leaseState(2));
        x.crash();
        Check.due('x', x.leaseState(0));
        Check.due('f', x.leaseState(2));
    }
}
