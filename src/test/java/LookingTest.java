import java.util.NoSuchElementException;

/** Promises 16 to 32: what can be looked at. */
public final class LookingTest {
    public static void main(String[] args) {
        minuteAndWhere();
        used();
        estimate();
        versionOf();
        slotAndWear();
        stored();
        promises();
        messages();
        deliver();
        paid();
        answeredShare();
        meanStaleness();
        isHonest();
        keysOutOfRange();
        Check.end("LookingTest");
    }

    /** Promises 16 and 17. */
    private static void minuteAndWhere() {
        SlipstreamCache x = Check.withFlash();
        Check.due(0, x.minute());
        x.pass(1);
        x.pass(60);
        Check.due(61, x.minute());
        Check.throwing(IllegalArgumentException.class, () -> x.pass(-1));
        Check.due(61, x.minute());
        Check.due('f', x.where(0));
        Check.due('m', x.where(1));
        Check.due('-', x.where(31));
        x.write(1, 1, 'b');
        Check.due('p', x.where(1));
        x.pass(3);
        Check.due('m', x.where(1));
    }

    /** Promise 18. */
    private static void used() {
        SlipstreamCache x = new SlipstreamCache();
        x.setKey(0, 3, 1, 0);
        x.setKey(1, 4, 1, 0);
        Check.load(x, 0);
        Check.due(3, x.used());
        x.write(1, 1, 'b');
        Check.due(7, x.used());
        x.write(1, 2, 'b');
        Check.due(7, x.used());
        x.write(2, 2, 'b');
        Check.due(8, x.used());
        x.drop(1);
        Check.due(4, x.used());
        x.crash();
        Check.due(0, x.used());
    }

    /** Promise 19. */
    private static void estimate() {
        SlipstreamCache x = new SlipstreamCache();
        x.write(9, 1, 'b');
        Check.due(0, x.estimate(9));
        for (int time = 1; time <= 63; time++) {
            x.get(9, 0, 0);
            Check.due(Math.min(time, 15), x.estimate(9));
        }
        // The key 25 has the same counters, and no other key has.
        Check.due(15, x.estimate(25));
        for (int key = 0; key < 32; key++) {
            Check.due(key % 16 == 9 ? 15 : 0, x.estimate(key));
        }
        Check.due('l', x.get(3, 0, 0));
        Check.due(7, x.estimate(9));
        Check.due(0, x.estimate(3));
        for (int time = 1; time <= 5; time++) {
            x.get(19, 0, 0);
        }
        Check.due(5, x.estimate(3));
        for (int time = 1; time <= 59; time++) {
            x.get(9, 0, 0);
        }
        Check.due(7, x.estimate(9));
        Check.due(2, x.estimate(3));
    }

    /** Promise 20. */
    private static void versionOf() {
        SlipstreamCache x = Check.withFlash();
        Check.due(1, x.versionOf(0));
        Check.due(1, x.versionOf(1));
        Check.throwing(NoSuchElementException.class, () -> x.versionOf(4));
        x.write(1, 1, 't');
        Check.due(2, x.versionOf(1));
        x.write(0, 1, 'a');
        Check.due(1, x.versionOf(0));
        x.write(0, 1, 't');
        Check.throwing(NoSuchElementException.class, () -> x.versionOf(0));
        // What is filled is in the flash still, with an older version; that of the memory is told.
        SlipstreamCache y = Check.withFlash();
        y.write(0, 1, 'a');
        y.bump(0);
        Check.miss(y, 0, 3);
        Check.readAndFill(y, 4, 'i');
        Check.due(2, y.versionOf(0));
    }

    /** Promises 21 and 22. */
    private static void slotAndWear() {
        SlipstreamCache x = Check.withFlash();
        Check.throwing(IndexOutOfBoundsException.class, () -> x.slot(-1, 0));
        Check.throwing(IndexOutOfBoundsException.class, () -> x.slot(4, 0));
        Check.throwing(IndexOutOfBoundsException.class, () -> x.slot(0, -1));
        Check.throwing(IndexOutOfBoundsException.class, () -> x.slot(0, 4));
        Check.throwing(IndexOutOfBoundsException.class, () -> x.wear(-1));
        Check.throwing(IndexOutOfBoundsException.class, () -> x.wear(4));
        Check.due(-1, x.slot(3, 3));
        // The keys 0 and 1 take turns: each one's coming sends the other to the flash, and puts a mark.
        Check.due('m', x.get(2, 0, 0));
        int[] keys = {0, 1, 0, 1, 0, 1, 0};
        for (int key : keys) {
            x.write(key, 1, 'b');
            x.pass(3);
        }
        Check.slots(x, 0, 0, 1, 100, 0);
        Check.slots(x, 1, 101, 1, 100, 0);
        Check.slots(x, 2, 101, 1, 100, 0);
        Check.slots(x, 3, 101, 1, 100, -1);
        Check.due(1, x.wear(0));
        Check.due(1, x.wear(3));
        x.write(1, 1, 'b');
        Check.slots(x, 3, 101, 1, 100, 0);
        Check.slots(x, 0, 101, -1, -1, -1);
        Check.due(2, x.wear(0));
        Check.due(1, x.wear(1));
    }

    /** Promise 23. */
    private static void stored() {
        SlipstreamCache x = new SlipstreamCache();
        x.write(0, Integer.MIN_VALUE, 't');
        x.write(31, Integer.MAX_VALUE, 'a');
        x.write(1, 4, 'b');
        Check.due(Integer.MIN_VALUE, x.stored(0));
        Check.due(Integer.MAX_VALUE, x.stored(31));
        Check.due(0, x.stored(1));
        x.pass(3);
        Check.due(4, x.stored(1));
    }

    /** Promises 24 and 25. */
    private static void promises() {
        SlipstreamCache x = new SlipstreamCache();
        Check.throwing(NoSuchElementException.class, () -> x.nextPromise());
        x.setKey(8, 1, 2, 0);
        x.write(7, 1, 'b');
        x.write(6, 1, 'b');
        Check.due(6, x.nextPromise());
        x.write(8, 1, 'b');
        Check.due(8, x.nextPromise());
        Check.due(3, x.promises());
        x.pass(1);
        x.setKey(9, 1, 9, 0);
        x.write(9, 1, 'b');
        Check.due(8, x.nextPromise());
        x.drop(8);
        Check.due(6, x.nextPromise());
        x.write(6, 2, 't');
        Check.due(7, x.nextPromise());
        Check.due(2, x.promises());
        x.pass(2);
        Check.due(9, x.nextPromise());
        x.crash();
        Check.due(9, x.nextPromise());
        Check.due(1, x.promises());
        x.recover();
        Check.throwing(NoSuchElementException.class, () -> x.nextPromise());
        Check.due(0, x.promises());
    }

    /** Promise 26. */
    private static void messages() {
        SlipstreamCache x = new SlipstreamCache();
        x.write(1, 1, 't');
        x.write(1, 2, 'a');
        Check.due(2, x.messages());
        x.write(1, 3, 'b');
        Check.due(2, x.messages());
        x.pass(3);
        Check.due(3, x.messages());
        x.deliver(1);
        Check.due(2, x.messages());
        x.crash();
        Check.due(2, x.messages());
    }

    /** Promises 27 and 28. */
    private static void deliver() {
        SlipstreamCache x = new SlipstreamCache();
        Check.throwing(IndexOutOfBoundsException.class, () -> x.deliver(0));
        x.write(1, 11, 't');
        x.write(2, 21, 't');
        x.write(1, 12, 't');
        x.write(1, 13, 't');
        Check.throwing(IndexOutOfBoundsException.class, () -> x.deliver(-1));
        Check.throwing(IndexOutOfBoundsException.class, () -> x.deliver(4));
        Check.due(0, x.mirrored(1));
        Check.due(true, x.deliver(2));
        Check.due(12, x.mirrored(1));
        Check.due(false, x.deliver(0));
        Check.due(12, x.mirrored(1));
        Check.due(true, x.deliver(1));
        Check.due(13, x.mirrored(1));
        Check.due(0, x.mirrored(2));
        Check.due(true, x.deliver(0));
        Check.due(21, x.mirrored(2));
        Check.throwing(IndexOutOfBoundsException.class, () -> x.deliver(0));
    }

    /** Promise 29. */
    private static void paid() {
        SlipstreamCache x = new SlipstreamCache();
        x.setKey(0, 1, 9, 0);
        x.get(0, 0, 0);
        x.get(0, 0, 0);
        Check.due(9L, x.paid());
        x.get(1, 0, 0);
        Check.due(10L, x.paid());
        x.pass(6);
        x.setKey(0, 1, 2, 0);
        Check.due(10L, x.paid());
        x.get(0, 0, 0);
        Check.due(12L, x.paid());
    }

    /** Promise 30. */
    private static void answeredShare() {
        SlipstreamCache x = new SlipstreamCache();
        Check.throwing(ArithmeticException.class, () -> x.answeredShare());
        Check.throwing(IndexOutOfBoundsException.class, () -> x.get(32, 0, 0));
        Check.throwing(ArithmeticException.class, () -> x.answeredShare());
        x.get(0, 0, 0);
        Check.due(0.0f, x.answeredShare());
        x.get(0, 0, 0);
        Check.readAndFill(x, 0, 'i');
        x.get(0, 0, 0);
        Check.due(1.0f / 3.0f, x.answeredShare());
        x.pass(1);
        x.get(0, 0, 0);
        Check.due('s', x.get(0, 0, 1));
        Check.due(2.0f / 5.0f, x.answeredShare());
        SlipstreamCache y = Check.withFlash();
        Check.due('f', y.get(0, 0, 0));
        Check.due(1.0f / 13.0f, y.answeredShare());
    }

    /** Promise 31. */
    private static void meanStaleness() {
        SlipstreamCache x = new SlipstreamCache();
        Check.throwing(ArithmeticException.class, () -> x.meanStaleness());
        Check.load(x, 0);
        Check.throwing(ArithmeticException.class, () -> x.meanStaleness());
        x.get(0, 0, 0);
        Check.due(0.0, x.meanStaleness());
        x.write(0, 1, 'a');
        x.pass(5);
        x.get(0, 60, 0);
        Check.due(2.5, x.meanStaleness());
        x.pass(2);
        x.get(0, 60, 0);
        Check.due(4.0, x.meanStaleness());
        x.get(1, 0, 0);
        x.get(0, 0, 0);
        Check.due('s', x.get(0, 0, 9));
        Check.due(19.0 / 4.0, x.meanStaleness());
        x.write(2, 1, 'b');
        x.get(2, 0, 0);
        Check.due(19.0 / 5.0, x.meanStaleness());
    }

    /** Promise 32. */
    private static void isHonest() {
        SlipstreamCache x = Check.withFlash();
        Check.due(true, x.isHonest());
        x.write(0, 2, 'a');
        x.pass(60);
        Check.due('f', x.get(0, 60, 0));
        Check.due(60, x.staleness());
        Check.due(true, x.isHonest());
        Check.due('l', x.get(0, 59, 0));
        Check.due('s', x.get(0, 59, 1));
        Check.due(60, x.staleness());
        Check.due(true, x.isHonest());
        x.write(2, 1, 'b');
        Check.due(true, x.isHonest());
        x.crash();
        Check.due(true, x.isHonest());
        x.recover();
        Check.due(true, x.isHonest());
    }

    private static void keysOutOfRange() {
        SlipstreamCache x = new SlipstreamCache();
        int[] wrong = {-1, 32, 100, Integer.MIN_VALUE, Integer.MAX_VALUE};
        for (int key : wrong) {
            Check.throwing(IndexOutOfBoundsException.class, () -> x.where(key));
            Check.throwing(IndexOutOfBoundsException.class, () -> x.estimate(key));
            Check.throwing(IndexOutOfBoundsException.class, () -> x.versionOf(key));
            Check.throwing(IndexOutOfBoundsException.class, () -> x.stored(key));
            Check.throwing(IndexOutOfBoundsException.class, () -> x.mirrored(key));
        }
    }
}
