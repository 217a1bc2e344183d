/** The boundary cases of leases: promises 7 to 9. */
final class LeaseBoundaries {
    private static final int[] OUTSIDE_LEASES = {-1, 1, 59, 60, Integer.MIN_VALUE, Integer.MAX_VALUE};

    private LeaseBoundaries() {
    }

    static void run() {
        leasesOfRead();
        readOnce();
        readWhenNotOut();
        readInTheFifthMinute();
        readIsOfTheStoreThen();
        leasesOfFill();
        fillBeforeTheReading();
        fillTwice();
        fillComes();
        fillWithoutRoom();
        fillByAVoidLease();
        fillWithWhatWasRead();
        fillLeavesTheFlash();
        leasesOfLeaseState();
        states();
        voidInTheSixthMinute();
        voidByWrites();
        voidByDropping();
        voidByANewNumber();
        voidByACrash();
        filledStaysFilled();
        lastLease();
    }

    private static void leasesOfRead() {
        Check.sentence(7, "if there is no such lease");
        SlipstreamCache x = new SlipstreamCache();
        Check.refused(IndexOutOfBoundsException.class, x, () -> x.read(0));
        x.get(4, 0, 0);
        for (int lease : OUTSIDE_LEASES) {
            Check.refused(IndexOutOfBoundsException.class, x, () -> x.read(lease));
        }
        Check.due(0, x.read(0));
    }

    private static void readOnce() {
        Check.sentence(7, "With a lease, the store is read once");
        SlipstreamCache x = new SlipstreamCache();
        x.get(4, 0, 0);
        x.read(0);
        Check.refused(IllegalStateException.class, x, () -> x.read(0));
        x.fill(0);
        Check.refused(IllegalStateException.class, x, () -> x.read(0));
    }

    private static void readWhenNotOut() {
        Check.sentence(7, "if it is not out, or was read");
        SlipstreamCache x = new SlipstreamCache();
        x.setKey(3, 1, 1, 3);
        for (int key = 0; key < 6; key++) {
            x.get(key, 0, 0);
        }
        x.write(0, 1, 't');
        x.write(1, 1, 'b');
        x.drop(2);
        x.bump(3);
        for (int lease = 0; lease < 4; lease++) {
            int gone = lease;
            Check.refused(IllegalStateException.class, x, () -> x.read(gone));
        }
        Check.due(0, x.read(4));
        x.crash();
        Check.refused(IllegalStateException.class, x, () -> x.read(5));
        x.recover();
        Check.refused(IllegalStateException.class, x, () -> x.read(5));
    }

    private static void readInTheFifthMinute() {
        Check.sentence(7, "it is void behind 5 minutes, that is, in the sixth one");
        SlipstreamCache x = new SlipstreamCache();
        x.get(4, 0, 0);
        x.get(5, 0, 0);
        x.pass(5);
        Check.due(0, x.read(0));
        x.pass(1);
        Check.refused(IllegalStateException.class, x, () -> x.read(1));
    }

    private static void readIsOfTheStoreThen() {
        Check.sentence(7, "Reads the store with a lease.");
        SlipstreamCache x = new SlipstreamCache();
        x.write(4, Integer.MIN_VALUE, 'a');
        x.get(4, 0, 0);
        x.write(4, Integer.MAX_VALUE, 'a');
        Check.due(Integer.MAX_VALUE, x.read(0));
    }

    private static void leasesOfFill() {
        Check.sentence(8, "if there is no such lease");
        SlipstreamCache x = new SlipstreamCache();
        Check.refused(IndexOutOfBoundsException.class, x, () -> x.fill(0));
        x.get(4, 0, 0);
        x.read(0);
        for (int lease : OUTSIDE_LEASES) {
            Check.refused(IndexOutOfBoundsException.class, x, () -> x.fill(lease));
        }
        Check.due('i', x.fill(0));
    }

    private static void fillBeforeTheReading() {
        Check.sentence(8, "or was not read");
        SlipstreamCache x = new SlipstreamCache();
        x.get(4, 0, 0);
        Check.refused(IllegalStateException.class, x, () -> x.fill(0));
        // Void and not read: what throws goes ahead of what is answered.
        x.pass(6);
        Check.refused(IllegalStateException.class, x, () -> x.fill(0));
        x.get(4, 0, 0);
        x.crash();
        Check.refused(IllegalStateException.class, x, () -> x.fill(1));
    }

    private static void fillTwice() {
        Check.sentence(8, "if it was filled");
        SlipstreamCache x = Check.withFlash();
        Check.miss(x, 9, 1);
        Check.readAndFill(x, 4, 'n');
        Check.refused(IllegalStateException.class, x, () -> x.fill(4));
        Check.refused(IllegalStateException.class, x, () -> x.fill(0));
        x.pass(6);
        Check.refused(IllegalStateException.class, x, () -> x.fill(0));
    }

    private static void fillComes() {
        Check.sentence(8, "Returns 'i' if it is in the memory then");
        SlipstreamCache x = new SlipstreamCache();
        for (int key = 0; key < 12; key++) {
            Check.due('i', Check.load(x, key));
            Check.due(key + 1, x.used());
        }
        // One more has the worth 1 as the others have.
        Check.sentence(8, "'n' if it has not come, for want of room");
        Check.due('n', Check.load(x, 12));
        Check.due('-', x.where(12));
        Check.due(12, x.used());
    }

    private static void fillWithoutRoom() {
        Check.sentence(8, "which is not out any more then");
        SlipstreamCache x = Check.withFlash();
        Check.miss(x, 9, 1);
        Check.readAndFill(x, 4, 'n');
        Check.due('f', x.leaseState(4));
        Check.due('l', x.get(9, 0, 0));
        Check.due(5, x.lease());
    }

    private static void fillByAVoidLease() {
        Check.sentence(8, "'x' if the lease is void");
        SlipstreamCache x = new SlipstreamCache();
        x.get(4, 0, 0);
        x.read(0);
        x.pass(6);
        Check.due('x', x.fill(0));
        Check.due('x', x.fill(0));
        Check.due('-', x.where(4));
        Check.sentence(8, "not by a void one");
        x.get(4, 0, 0);
        x.read(1);
        x.write(4, 5, 'b');
        Check.due('x', x.fill(1));
        Check.due('p', x.where(4));
        Check.due('m', x.get(4, 0, 0));
        Check.due(5, x.value());
    }

    private static void fillWithWhatWasRead() {
        Check.sentence(8, "the cache filled, with what was read, its version and its minute, behind that");
        SlipstreamCache x = new SlipstreamCache();
        x.write(4, 40, 'a');
        x.get(4, 0, 0);
        x.pass(2);
        x.read(0);
        x.write(4, 41, 'a');
        x.pass(3);
        Check.due('i', x.fill(0));
        Check.due(1, x.versionOf(4));
        Check.due('l', x.get(4, 2, 0));
        Check.due('m', x.get(4, 3, 0));
        Check.due(40, x.value());
        Check.due(3, x.staleness());
    }

    private static void fillLeavesTheFlash() {
        Check.sentence(8, "Fills the cache with what was read with a lease");
        SlipstreamCache x = Check.withFlash();
        x.write(0, 77, 'a');
        x.pass(1);
        Check.miss(x, 0, 3);
        Check.readAndFill(x, 4, 'i');
        Check.due(2, x.versionOf(0));
        Check.slots(x, 0, 0, 1, -1, -1);
        Check.due(true, x.drop(0));
        Check.slots(x, 0, 0, 1, 100, -1);
    }

    private static void leasesOfLeaseState() {
        Check.sentence(9, "if there is no such lease");
        SlipstreamCache x = new SlipstreamCache();
        Check.refused(IndexOutOfBoundsException.class, x, () -> x.leaseState(0));
        x.get(4, 0, 0);
        for (int lease : OUTSIDE_LEASES) {
            Check.refused(IndexOutOfBoundsException.class, x, () -> x.leaseState(lease));
        }
        Check.due('o', x.leaseState(0));
    }

    private static void states() {
        Check.sentence(9, "Returns 'o' out, 'r' out and read, 'f' filled, 'x' void.");
        SlipstreamCache x = new SlipstreamCache();
        x.get(4, 0, 0);
        Check.due('o', x.leaseState(0));
        x.read(0);
        Check.due('r', x.leaseState(0));
        x.fill(0);
        Check.due('f', x.leaseState(0));
        x.get(5, 0, 0);
        x.drop(5);
        Check.due('x', x.leaseState(1));
        Check.due('f', x.leaseState(0));
    }

    private static void voidInTheSixthMinute() {
        Check.sentence(9, "it is void behind 5 minutes, that is, in the sixth one");
        SlipstreamCache x = new SlipstreamCache();
        x.pass(10);
        x.get(4, 0, 0);
        x.get(5, 0, 0);
        x.read(1);
        for (int minute = 11; minute <= 15; minute++) {
            x.pass(1);
            Check.due('o', x.leaseState(0));
            Check.due('r', x.leaseState(1));
            Check.due('w', x.get(4, 0, 0));
        }
        x.pass(1);
        Check.due('x', x.leaseState(0));
        Check.due('x', x.leaseState(1));
        Check.due('l', x.get(4, 0, 0));
        Check.due('x', x.leaseState(0));
    }

    private static void voidByWrites() {
        Check.sentence(9, "by a write of the key through or behind the cache");
        SlipstreamCache x = new SlipstreamCache();
        for (int key = 0; key < 4; key++) {
            x.get(key, 0, 0);
        }
        x.read(1);
        x.write(0, 1, 't');
        x.write(1, 1, 'b');
        x.write(2, 1, 'a');
        Check.due('x', x.leaseState(0));
        Check.due('x', x.leaseState(1));
        Check.due('o', x.leaseState(2));
        Check.due('o', x.leaseState(3));
        // Neither does a refused write make it void.
        Check.refused(IllegalArgumentException.class, x, () -> x.write(3, 1, 'B'));
        Check.due('o', x.leaseState(3));
    }

    private static void voidByDropping() {
        Check.sentence(9, "a dropping of it");
        SlipstreamCache x = new SlipstreamCache();
        x.get(4, 0, 0);
        x.get(20, 0, 0);
        Check.due(false, x.drop(4));
        Check.due('x', x.leaseState(0));
        Check.due('o', x.leaseState(1));
        Check.due('l', x.get(4, 0, 0));
    }

    private static void voidByANewNumber() {
        Check.sentence(9, "a new number of its group");
        SlipstreamCache x = new SlipstreamCache();
        for (int key = 0; key < 32; key++) {
            x.setKey(key, 1, 1, key % 4);
            x.get(key, 0, 0);
        }
        x.bump(3);
        for (int lease = 0; lease < 32; lease++) {
            Check.due(lease % 4 == 3 ? 'x' : 'o', x.leaseState(lease));
        }
    }

    private static void voidByACrash() {
        Check.sentence(9, "all leases that are out");
        SlipstreamCache x = new SlipstreamCache();
        for (int key = 0; key < 32; key++) {
            x.get(key, 0, 0);
        }
        x.read(31);
        x.read(30);
        x.fill(30);
        x.crash();
        for (int lease = 0; lease < 32; lease++) {
            Check.due(lease == 30 ? 'f' : 'x', x.leaseState(lease));
        }
        x.recover();
        Check.due('x', x.leaseState(0));
        Check.due('x', x.fill(31));
    }

    private static void filledStaysFilled() {
        Check.sentence(9, "A lease is out for a key from when it is given until it is filled, or void");
        SlipstreamCache x = new SlipstreamCache();
        Check.load(x, 4);
        x.write(4, 1, 't');
        x.drop(4);
        x.bump(0);
        x.pass(60);
        x.crash();
        Check.due('f', x.leaseState(0));
    }

    private static void lastLease() {
        Check.sentence(9, "if there is no such lease");
        SlipstreamCache x = AnswerBoundaries.withAllLeases();
        Check.due('o', x.leaseState(59));
        Check.refused(IndexOutOfBoundsException.class, x, () -> x.leaseState(60));
        Check.refused(IndexOutOfBoundsException.class, x, () -> x.read(60));
        Check.refused(IndexOutOfBoundsException.class, x, () -> x.fill(60));
        Check.readAndFill(x, 59, 'i');
        Check.due('f', x.leaseState(59));
    }
}
