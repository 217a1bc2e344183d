/** Promises 10 to 13: writes, dropping, groups and minutes. */
public final class WritesTest {
    public static void main(String[] args) {
        writeRefuses();
        writeThrough();
        writeBehind();
        writeBehindMustCome();
        writeBehindInTurn();
        writeAround();
        writesAreLimited();
        promisedWritesAreLimited();
        drop();
        bump();
        bumpMakesLeasesVoid();
        writesAreUses();
        pass();
        passEnds();
        passWhenDown();
        Check.end("WritesTest");
    }

    /** Promise 10. */
    private static void writeRefuses() {
        SlipstreamCache x = new SlipstreamCache();
        Check.throwing(IndexOutOfBoundsException.class, () -> x.write(-1, 0, 'q'));
        Check.throwing(IndexOutOfBoundsException.class, () -> x.write(32, 0, 't'));
        Check.throwing(IllegalArgumentException.class, () -> x.write(0, 0, 'T'));
        Check.throwing(IllegalArgumentException.class, () -> x.write(0, 0, (char) 0));
        x.crash();
        Check.throwing(IllegalArgumentException.class, () -> x.write(0, 0, 'q'));
        Check.throwing(IllegalStateException.class, () -> x.write(0, 5, 't'));
        Check.throwing(IllegalStateException.class, () -> x.write(0, 5, 'b'));
        Check.due(0, x.stored(0));
        Check.due(1, x.write(0, 6, 'a'));
        Check.due(6, x.stored(0));
        Check.due(1, x.messages());
        Check.due(0, x.promises());
    }

    private static void writeThrough() {
        SlipstreamCache x = Check.withFlash();
        Check.due(2, x.write(0, 50, 't'));
        Check.due(50, x.stored(0));
        Check.due('-', x.where(0));
        Check.slots(x, 0, 0, 100, -1, -1);
        x.pass(3);
        Check.due(2, x.write(1, 51, 't'));
        Check.due('m', x.where(1));
        Check.due(2, x.versionOf(1));
        Check.due('m', x.get(1, 0, 0));
        Check.due(51, x.value());
        Check.slots(x, 0, 0, 100, -1, -1);
        x.bump(0);
        Check.due(2, x.write(2, 52, 't'));
        Check.due('m', x.get(2, 0, 0));
        Check.due(52, x.value());
        Check.due(1, x.write(30, 7, 't'));
        Check.due('-', x.where(30));
    }

    private static void writeBehind() {
        SlipstreamCache x = new SlipstreamCache();
        Check.due(1, x.write(5, 1, 'a'));
        Check.due(1, x.write(5, 2, 'b'));
        Check.due('p', x.where(5));
        Check.due(2, x.versionOf(5));
        Check.due(1, x.stored(5));
        Check.due(1, x.messages());
        Check.due(1, x.used());
        Check.due('m', x.get(5, 0, 0));
        Check.due(2, x.value());
        Check.due(2, x.write(5, 3, 't'));
        Check.due('m', x.where(5));
        Check.due(0, x.promises());
        Check.due(0, x.pass(10));
        Check.due(3, x.stored(5));
        Check.due(2, x.messages());
        Check.due('l', x.get(5, 9, 0));
        Check.due('m', x.get(5, 10, 0));
        x.write(6, 8, 'b');
        Check.due(1, x.write(6, 9, 'a'));
        Check.due(2, x.write(6, 10, 'a'));
        Check.due(1, x.versionOf(6));
        Check.due(1, x.pass(4));
        Check.due(8, x.stored(6));
        Check.due(3, x.versionOf(6));
        // It was written in the minute 13, and is of then.
        Check.due('m', x.get(6, 1, 0));
        Check.due('l', x.get(6, 0, 0));
    }

    private static void writeBehindMustCome() {
        SlipstreamCache x = Check.withFlash();
        // The key 0 comes with the least worth of all; 1 goes, then the mark stands.
        Check.due(1, x.write(0, 90, 'b'));
        Check.due('p', x.where(0));
        Check.slots(x, 0, 0, 1, 100, -1);
        Check.due(12, x.used());
        x.setKey(9, 4, 1, 0);
        x.setKey(10, 3, 1, 0);
        x.setKey(11, 2, 1, 0);
        x.setKey(12, 1, 1, 0);
        x.write(9, 1, 'b');
        Check.due('f', x.where(2));
        Check.due('m', x.where(3));
        x.write(10, 1, 'b');
        Check.due('f', x.where(3));
        Check.slots(x, 0, 0, 1, 100, 2);
        Check.slots(x, 1, 3, -1, -1, -1);
        Check.due(11, x.used());
        Check.throwing(UnsupportedOperationException.class, () -> x.write(11, 1, 'b'));
        Check.due('-', x.where(11));
        Check.due(3, x.promises());
        Check.due(0, x.write(12, 1, 'b'));
        Check.due(12, x.used());
        Check.throwing(UnsupportedOperationException.class, () -> x.write(1, 1, 'b'));
        Check.due('f', x.where(1));
        Check.due(0, x.write(9, 2, 'b'));
        Check.due(4, x.promises());
        Check.due('l', x.get(20, 0, 0));
        Check.readAndFill(x, 4, 'n');
        Check.due(4, x.pass(3));
        Check.due(0, x.write(11, 1, 'b'));
        Check.due(true, x.isHonest());
    }

    private static void writeBehindInTurn() {
        SlipstreamCache x = new SlipstreamCache();
        x.setKey(3, 1, 2, 0);
        x.write(1, 10, 'b');
        x.pass(1);
        x.write(3, 30, 'b');
        x.write(2, 20, 'b');
        Check.due(1, x.nextPromise());
        x.pass(1);
        x.write(1, 11, 'b');
        Check.due(3, x.promises());
        Check.due(1, x.nextPromise());
        Check.due('m', x.get(1, 0, 0));
        Check.due(1, x.pass(1));
        Check.due(11, x.stored(1));
        Check.due(3, x.nextPromise());
        Check.due('m', x.get(1, 0, 0));
        Check.due(2, x.pass(1));
        // The first message is of 1, the second of 3 by its cost.
        Check.due(3, x.messages());
        Check.due(true, x.deliver(1));
        Check.due(30, x.mirrored(3));
        Check.due(true, x.deliver(1));
        Check.due(20, x.mirrored(2));
    }

    private static void writeAround() {
        SlipstreamCache x = Check.withFlash();
        Check.due(2, x.write(0, 60, 'a'));
        Check.due(2, x.write(1, 61, 'a'));
        Check.due(61, x.stored(1));
        Check.due('f', x.where(0));
        Check.due(1, x.versionOf(0));
        Check.due(1, x.versionOf(1));
        Check.due('m', x.get(1, 0, 0));
        Check.due(11, x.value());
        x.get(9, 0, 0);
        x.write(9, 1, 'a');
        Check.due('o', x.leaseState(4));
        Check.slots(x, 0, 0, -1, -1, -1);
        Check.due(7, x.messages());
    }

    private static void writesAreLimited() {
        SlipstreamCache x = new SlipstreamCache();
        for (int write = 1; write <= 400; write++) {
            Check.due(write, x.write(31, write, write % 2 == 0 ? 'a' : 't'));
        }
        Check.throwing(IllegalStateException.class, () -> x.write(31, 0, 'a'));
        Check.throwing(IllegalStateException.class, () -> x.write(31, 0, 't'));
        Check.throwing(IllegalStateException.class, () -> x.write(31, 0, 'b'));
        Check.throwing(IllegalArgumentException.class, () -> x.write(31, 0, 'c'));
        Check.due(400, x.stored(31));
        Check.due(400, x.messages());
        Check.throwing(IndexOutOfBoundsException.class, () -> x.deliver(400));
        Check.due(true, x.deliver(399));
        Check.due(400, x.mirrored(31));
        Check.due(false, x.deliver(0));
        Check.due(400, x.mirrored(31));
        Check.due(398, x.messages());
        Check.throwing(IllegalStateException.class, () -> x.write(31, 0, 'a'));
    }

    private static void promisedWritesAreLimited() {
        SlipstreamCache x = new SlipstreamCache();
        for (int write = 1; write <= 387; write++) {
            x.write(31, write, 'a');
        }
        for (int key = 0; key < 12; key++) {
            x.write(key, key, 'b');
        }
        x.write(0, 100, 'b');
        Check.throwing(UnsupportedOperationException.class, () -> x.write(12, 0, 'b'));
        Check.due(1, x.write(0, 101, 't'));
        x.write(0, 102, 'b');
        Check.throwing(IllegalStateException.class, () -> x.write(12, 0, 'b'));
        Check.throwing(IllegalStateException.class, () -> x.write(0, 0, 't'));
        Check.throwing(IllegalStateException.class, () -> x.write(0, 0, 'a'));
        Check.due(12, x.pass(3));
        Check.due(400, x.messages());
        Check.due(102, x.stored(0));
        Check.throwing(IllegalStateException.class, () -> x.write(0, 0, 'a'));
    }

    /** Promise 11. */
    private static void drop() {
        SlipstreamCache x = Check.withFlash();
        Check.throwing(IndexOutOfBoundsException.class, () -> x.drop(-1));
        Check.throwing(IndexOutOfBoundsException.class, () -> x.drop(32));
        Check.due(false, x.drop(31));
        Check.due(true, x.drop(1));
        Check.due('-', x.where(1));
        Check.due(8, x.used());
        Check.slots(x, 0, 0, -1, -1, -1);
        Check.due(false, x.drop(1));
        Check.due(true, x.drop(0));
        Check.due('-', x.where(0));
        Check.slots(x, 0, 0, 100, -1, -1);
        Check.due(false, x.drop(0));
        Check.slots(x, 0, 0, 100, -1, -1);
        x.write(2, 70, 'b');
        Check.due(12, x.stored(2));
        Check.due(true, x.drop(2));
        Check.due(70, x.stored(2));
        Check.due(0, x.promises());
        Check.due(0, x.pass(3));
        Check.due('-', x.where(2));
        Check.due(5, x.messages());
        x.get(7, 0, 0);
        x.get(8, 0, 0);
        Check.due(false, x.drop(7));
        Check.due('x', x.leaseState(4));
        Check.due('o', x.leaseState(5));
        x.crash();
        Check.throwing(IndexOutOfBoundsException.class, () -> x.drop(32));
        Check.throwing(IllegalStateException.class, () -> x.drop(3));
    }

    /** Promise 12. */
    private static void bump() {
        SlipstreamCache x = new SlipstreamCache();
        Check.throwing(IndexOutOfBoundsException.class, () -> x.bump(-1));
        Check.throwing(IndexOutOfBoundsException.class, () -> x.bump(4));
        for (int key = 0; key < 4; key++) {
            x.setKey(key, 1, key == 2 ? 9 : 1, key == 3 ? 1 : 3);
        }
        x.write(1, 10, 'b');
        x.pass(1);
        x.write(0, 11, 'b');
        x.write(2, 12, 'b');
        x.write(3, 13, 'b');
        x.setKey(6, 1, 1, 3);
        x.get(6, 0, 0);
        x.get(7, 0, 0);
        Check.due(1, x.bump(3));
        Check.due(1, x.promises());
        Check.due(3, x.nextPromise());
        Check.due(3, x.messages());
        // They were written in their turns: 1 by its minute, 2 by its cost, 0.
        x.deliver(1);
        Check.due(12, x.mirrored(2));
        x.deliver(0);
        Check.due(10, x.mirrored(1));
        Check.due(11, x.stored(0));
        Check.due('m', x.where(0));
        Check.due('x', x.leaseState(0));
        Check.due('o', x.leaseState(1));
        Check.due('l', x.get(0, 60, 60));
        Check.due('m', x.get(3, 0, 0));
        Check.due(2, x.bump(3));
        Check.due(1, x.bump(0));
        Check.due('x', x.leaseState(1));
        x.crash();
        Check.throwing(IllegalStateException.class, () -> x.bump(0));
        Check.throwing(IndexOutOfBoundsException.class, () -> x.bump(4));
        x.recover();
        Check.due(2, x.bump(0));
    }

    private static void bumpMakesLeasesVoid() {
        SlipstreamCache x = new SlipstreamCache();
        for (int key = 0; key < 32; key++) {
            x.setKey(key, 1, 1, key % 2);
            x.get(key, 0, 0);
        }
        x.bump(0);
        for (int key = 0; key < 32; key++) {
            Check.due(key % 2 == 0 ? 'x' : 'o', x.leaseState(key));
        }
    }

    /** A write through the cache is a use, one around it is none. */
    private static void writesAreUses() {
        SlipstreamCache x = new SlipstreamCache();
        for (int key = 0; key < 3; key++) {
            x.setKey(key, 4, 1, 0);
            Check.load(x, key);
        }
        x.write(0, 1, 't');
        x.write(1, 1, 'a');
        x.write(9, 1, 'b');
        Check.due('m', x.where(0));
        Check.due('-', x.where(1));
        Check.due('m', x.where(2));
        x.drop(9);
        Check.load(x, 1);
        x.write(2, 1, 'b');
        x.write(2, 2, 't');
        x.write(9, 1, 'b');
        Check.due('-', x.where(0));
        Check.due('m', x.where(1));
        Check.due('m', x.where(2));
    }

    /** Promise 13. */
    private static void pass() {
        SlipstreamCache x = new SlipstreamCache();
        Check.throwing(IllegalArgumentException.class, () -> x.pass(0));
        Check.throwing(IllegalArgumentException.class, () -> x.pass(61));
        Check.throwing(IllegalArgumentException.class, () -> x.pass(Integer.MAX_VALUE));
        x.write(1, 5, 'b');
        Check.due(0, x.pass(2));
        x.write(2, 6, 'b');
        x.write(0, 7, 'b');
        Check.due(0, x.stored(1));
        Check.due(1, x.pass(1));
        Check.due(5, x.stored(1));
        Check.due(2, x.pass(60));
        Check.due(63, x.minute());
        // They were written in the minute 5, so that they are read 58 minutes ago.
        Check.due('l', x.get(2, 57, 0));
        Check.due('m', x.get(2, 58, 0));
        x.deliver(1);
        Check.due(7, x.mirrored(0));
        Check.due(0, x.pass(1));
    }

    private static void passEnds() {
        SlipstreamCache x = new SlipstreamCache();
        for (int hour = 0; hour < 83; hour++) {
            x.pass(60);
        }
        Check.throwing(IllegalStateException.class, () -> x.pass(21));
        Check.throwing(IllegalArgumentException.class, () -> x.pass(61));
        Check.due(4980, x.minute());
        Check.due(0, x.pass(20));
        Check.due(5000, x.minute());
        x.write(0, 1, 'b');
        Check.throwing(IllegalStateException.class, () -> x.pass(1));
        Check.due(1, x.promises());
        Check.due(1, x.bump(0));
        Check.due(1, x.stored(0));
        x.write(0, 2, 'b');
        x.crash();
        x.recover();
        Check.due(2, x.stored(0));
    }

    private static void passWhenDown() {
        SlipstreamCache x = new SlipstreamCache();
        x.write(0, 1, 'b');
        x.crash();
        Check.due(0, x.pass(10));
        Check.due(10, x.minute());
        Check.due(1, x.promises());
        Check.due(0, x.stored(0));
    }
}
