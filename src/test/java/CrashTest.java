import java.util.NoSuchElementException;

/** Promises 14 and 15: crash and recovery. */
public final class CrashTest {
    public static void main(String[] args) {
        crash();
        crashClearsTheSketch();
        recover();
        promisesAreWrittenFirst();
        marksAndGroups();
        comingAgainByCost();
        comingAgainByMinute();
        comingAgainPassesOver();
        leavingBehindRecovery();
        ringOfSlots();
        ringEndsWithMark();
        comingWithoutWorth();
        keyZeroIsLostToo();
        oldNumberUnderAnotherGroup();
        Check.end("CrashTest");
    }

    /** Promise 14. */
    private static void crash() {
        SlipstreamCache x = Check.withFlash();
        x.write(1, 40, 'b');
        x.get(9, 0, 0);
        Check.due(3, x.crash());
        Check.throwing(IllegalStateException.class, () -> x.crash());
        for (int key = 0; key < 4; key++) {
            Check.due('-', x.where(key));
            Check.due(0, x.estimate(key));
            int lost = key;
            Check.throwing(NoSuchElementException.class, () -> x.versionOf(lost));
        }
        Check.due(0, x.used());
        Check.due('x', x.leaseState(4));
        Check.due('f', x.leaseState(3));
        Check.slots(x, 0, 0, -1, -1, -1);
        Check.due(1, x.wear(0));
        Check.due(1, x.promises());
        Check.due(1, x.nextPromise());
        Check.due(5L, x.paid());
        Check.due(true, x.isHonest());
        Check.due(true, x.deliver(0));
        SlipstreamCache y = new SlipstreamCache();
        Check.due(0, y.crash());
        Check.due(0, y.recover());
        Check.due(0, y.crash());
    }

    private static void crashClearsTheSketch() {
        SlipstreamCache x = new SlipstreamCache();
        Check.load(x, 1);
        for (int time = 0; time < 40; time++) {
            x.get(1, 0, 0);
        }
        Check.due(15, x.estimate(1));
        x.crash();
        Check.due(0, x.estimate(1));
        x.recover();
        Check.load(x, 1);
        for (int time = 1; time < 63; time++) {
            x.get(1, 0, 0);
        }
        Check.due(15, x.estimate(1));
        x.get(1, 0, 0);
        Check.due(7, x.estimate(1));
    }

    /** Promise 15. */
    private static void recover() {
        SlipstreamCache x = Check.withFlash();
        Check.throwing(IllegalStateException.class, () -> x.recover());
        x.pass(7);
        x.crash();
        Check.due(1, x.recover());
        Check.throwing(IllegalStateException.class, () -> x.recover());
        Check.due('m', x.where(0));
        Check.due('-', x.where(1));
        Check.due(4, x.used());
        Check.slots(x, 0, 0, -1, -1, -1);
        // It comes as it is, read in the minute 0, and stays in the flash.
        Check.due('l', x.get(0, 6, 0));
        Check.due('m', x.get(0, 7, 0));
        Check.due(10, x.value());
        Check.due(1, x.versionOf(0));
        x.write(0, 1, 't');
        Check.slots(x, 0, 0, 100, -1, -1);
        x.crash();
        Check.due(0, x.recover());
        Check.due('-', x.where(0));
        Check.due('m', Check.load(x, 5) == 'i' ? x.where(5) : '-');
    }

    private static void promisesAreWrittenFirst() {
        SlipstreamCache x = new SlipstreamCache();
        x.setKey(5, 1, 3, 0);
        x.write(7, 70, 'b');
        x.pass(1);
        x.write(4, 40, 'b');
        x.write(5, 50, 'b');
        Check.due(3, x.crash());
        x.write(7, 71, 'a');
        x.pass(20);
        Check.due(0, x.recover());
        Check.due(0, x.promises());
        Check.due('-', x.where(7));
        Check.due(70, x.stored(7));
        Check.due(4, x.messages());
        Check.due(true, x.deliver(1));
        Check.due(70, x.mirrored(7));
        Check.due(true, x.deliver(1));
        Check.due(50, x.mirrored(5));
        Check.due(false, x.deliver(0));
        Check.due(true, x.deliver(0));
        Check.due(40, x.mirrored(4));
        Check.due(0, x.pass(20));
    }

    private static void marksAndGroups() {
        SlipstreamCache x = Check.withFlash();
        x.write(0, 1, 'b');
        x.pass(3);
        Check.slots(x, 0, 0, 1, 100, -1);
        x.crash();
        Check.due(1, x.recover());
        Check.due('-', x.where(0));
        Check.due('m', x.where(1));
        Check.due(0, x.setKey(0, 1, 1, 1));
        x.bump(1);
        x.crash();
        Check.due(1, x.recover());
        x.bump(0);
        Check.due('m', x.where(1));
        x.drop(1);
        x.crash();
        Check.due(0, x.recover());
        SlipstreamCache y = Check.withFlash();
        y.bump(0);
        Check.due('f', y.where(0));
        Check.due(1, y.versionOf(0));
        y.crash();
        Check.due(0, y.recover());
        Check.due('-', y.where(0));
        Check.due(0, y.slot(0, 0));
        Check.due(0, y.used());
    }

    private static void comingAgainByCost() {
        int[] sizes = {4, 4, 4, 4, 4};
        int[] costs = {1, 5, 5, 7, 5};
        SlipstreamCache x = Check.flashOf(sizes, costs, 0);
        x.crash();
        Check.due(5, x.recover());
        // 3 by its cost, then 1 and 2 by their keys, as all were read in the same minute.
        Check.due('f', x.where(0));
        Check.due('m', x.where(1));
        Check.due('m', x.where(2));
        Check.due('m', x.where(3));
        Check.due('f', x.where(4));
    }

    private static void comingAgainByMinute() {
        int[] sizes = {4, 4, 4, 4, 4};
        int[] costs = {2, 1, 1, 1, 1};
        SlipstreamCache x = Check.flashOf(sizes, costs, 1);
        x.crash();
        Check.due(5, x.recover());
        Check.due('m', x.where(0));
        Check.due('f', x.where(1));
        Check.due('f', x.where(2));
        Check.due('m', x.where(3));
        Check.due('m', x.where(4));
    }

    private static void comingAgainPassesOver() {
        int[] sizes = {4, 4, 3, 2, 1};
        int[] costs = {9, 8, 7, 6, 5};
        SlipstreamCache x = Check.flashOf(sizes, costs, 0);
        x.crash();
        Check.due(5, x.recover());
        Check.due('m', x.where(0));
        Check.due('m', x.where(1));
        Check.due('m', x.where(2));
        Check.due('f', x.where(3));
        Check.due('m', x.where(4));
        Check.due(12, x.used());
        Check.due(true, x.isHonest());
    }

    private static void leavingBehindRecovery() {
        int[] sizes = {4, 4, 4};
        int[] costs = {1, 2, 3};
        SlipstreamCache x = Check.flashOf(sizes, costs, 0);
        x.crash();
        Check.due(3, x.recover());
        Check.due(12, x.used());
        // All have the worth 0; the first one that came, 2, was used longest ago, and is in the flash still.
        x.write(20, 1, 'b');
        Check.due('f', x.where(2));
        Check.due('m', x.where(0));
        Check.slots(x, 0, 0, 1, 2, -1);
        // With an estimate of 2 it goes to the flash once more, and has this slot alone.
        Check.due('m', x.get(1, 0, 0));
        Check.due('m', x.get(1, 0, 0));
        Check.due('m', x.get(0, 0, 0));
        Check.due('m', x.get(0, 0, 0));
        Check.due('m', x.get(0, 0, 0));
        x.setKey(21, 4, 1, 0);
        x.write(21, 1, 'b');
        Check.due('f', x.where(0));
        Check.due('m', x.where(1));
        Check.slots(x, 0, 0, 1, 2, 0);
        x.drop(0);
        Check.slots(x, 1, 100, -1, -1, -1);
        x.drop(0);
        Check.slots(x, 1, 100, -1, -1, -1);
    }

    private static void ringOfSlots() {
        SlipstreamCache x = Check.flashOf(16);
        Check.slots(x, 3, 12, 13, 14, 15);
        x.crash();
        Check.due(16, x.recover());
        Check.due('m', x.where(0));
        SlipstreamCache y = Check.flashOf(17);
        Check.slots(y, 0, 16, -1, -1, -1);
        Check.due(2, y.wear(0));
        Check.due('-', y.where(0));
        Check.due('-', y.where(3));
        Check.due('f', y.where(4));
        Check.due('f', y.where(15));
        y.crash();
        Check.due(13, y.recover());
        Check.due('-', y.where(3));
        Check.due('m', y.where(4));
        Check.due('f', y.where(16));
    }

    /** The mark has the greatest number, though its slot stands ahead of the one with the least. */
    private static void ringEndsWithMark() {
        SlipstreamCache x = Check.flashOf(15);
        Check.due(true, x.drop(0));
        Check.slots(x, 3, 12, 13, 14, 100);
        x.crash();
        Check.due(14, x.recover());
        Check.due('-', x.where(0));
    }

    private static void comingWithoutWorth() {
        SlipstreamCache x = Check.flashOf(4);
        x.crash();
        Check.due(4, x.recover());
        x.drop(1);
        // There is room, so that the worth 0 does not matter.
        Check.due(0, x.estimate(3));
        Check.due('f', x.get(3, 0, 0));
        Check.due('m', x.where(3));
        Check.slots(x, 1, 101, 103, -1, -1);
    }

    private static void keyZeroIsLostToo() {
        SlipstreamCache x = new SlipstreamCache();
        x.get(0, 0, 0);
        x.crash();
        Check.due('x', x.leaseState(0));
        x.recover();
        Check.load(x, 0);
        Check.due(1, x.crash());
        Check.due('-', x.where(0));
        x.recover();
        Check.due('-', x.where(0));
        Check.due('i', Check.load(x, 0));
        Check.due(1, x.used());
    }

    /** A key may have left the index by its group's number alone, and then be told of another group. */
    private static void oldNumberUnderAnotherGroup() {
        SlipstreamCache x = Check.withFlash();
        x.bump(0);
        x.crash();
        Check.due(0, x.recover());
        Check.due(0, x.setKey(0, 1, 1, 2));
        x.crash();
        Check.due(1, x.recover());
        Check.due('m', x.where(0));
        Check.due(1, x.used());
    }
}
