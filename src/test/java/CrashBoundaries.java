import java.util.NoSuchElementException;

/** The boundary cases of crash and recovery: promises 14 and 15. */
final class CrashBoundaries {
    private CrashBoundaries() {
    }

    static void run() {
        crashOfAnEmptyMemory();
        crashOfAFullMemory();
        crashWhileDown();
        whatIsLost();
        whatIsNotLost();
        whatIsRefusedWhileDown();
        whatIsDoneWhileDown();
        recoverWhileUp();
        recoverOfNothing();
        promisesInTheirTurns();
        promisesOfLongAgo();
        newestSlotOfTheRing();
        markBehindTheEndOfTheRing();
        entryBehindAMark();
        markTakesOut();
        oldNumbers();
        oldNumberOverAnOlderSlot();
        newestSlotHasAnOldNumber();
        comingUpToTheRoom();
        comingByCost();
        comingByMinute();
        comingByKey();
        passedOver();
        comingIsUse();
        nextSlotGoesOn();
        severalCrashes();
    }

    private static void crashOfAnEmptyMemory() {
        Check.sentence(14, "Returns the number of entries that the memory had.");
        SlipstreamCache x = new SlipstreamCache();
        Check.due(0, x.crash());
        SlipstreamCache y = Check.flashOf(1);
        Check.due(0, y.crash());
    }

    private static void crashOfAFullMemory() {
        Check.sentence(14, "Returns the number of entries that the memory had.");
        SlipstreamCache x = new SlipstreamCache();
        for (int key = 20; key < 32; key++) {
            x.write(key, key, 'b');
        }
        Check.due(12, x.crash());
        Check.due(12, x.promises());
        SlipstreamCache y = Check.withFlash();
        Check.due(3, y.crash());
    }

    private static void crashWhileDown() {
        Check.sentence(14, "if the cache is down");
        SlipstreamCache x = Check.withFlash();
        x.crash();
        Check.refused(IllegalStateException.class, x, () -> x.crash());
        x.pass(60);
        Check.refused(IllegalStateException.class, x, () -> x.crash());
        x.recover();
        Check.due(1, x.crash());
    }

    private static void whatIsLost() {
        Check.sentence(14, "By a crash, the memory, the sketch, all leases that are out and the index are lost");
        SlipstreamCache x = Check.withFlash();
        x.get(9, 0, 0);
        x.get(10, 0, 0);
        x.read(5);
        x.crash();
        Check.due(0, x.used());
        for (int key = 0; key < 32; key++) {
            int lost = key;
            Check.due('-', x.where(key));
            Check.due(0, x.estimate(key));
            Check.refused(NoSuchElementException.class, x, () -> x.versionOf(lost));
        }
        Check.due('x', x.leaseState(4));
        Check.due('x', x.leaseState(5));
        Check.due('x', x.fill(5));
        Check.due('-', x.where(10));
    }

    private static void whatIsNotLost() {
        Check.sentence(14, "promises, the numbers of the groups, and the flash, with its next slot and its wear, are not");
        SlipstreamCache x = Check.withFlash();
        x.bump(3);
        x.write(1, 7, 'b');
        Check.due('f', x.get(0, 0, 0));
        x.crash();
        Check.due(1, x.promises());
        Check.due(1, x.nextPromise());
        Check.slots(x, 0, 0, -1, -1, -1);
        Check.due(1, x.wear(0));
        Check.due(0, x.wear(1));
        Check.sentence(14, "but not the last answer");
        Check.due(10, x.value());
        Check.due(0, x.staleness());
        Check.due(3, x.lease());
        Check.due(4L, x.paid());
        x.recover();
        Check.due(2, x.bump(3));
        Check.due(1, x.bump(2));
    }

    private static void whatIsRefusedWhileDown() {
        Check.sentence(14, "Until it is recovered, the cache is down.");
        SlipstreamCache x = Check.withFlash();
        x.get(9, 0, 0);
        x.crash();
        Check.refused(IllegalStateException.class, x, () -> x.setKey(9, 1, 1, 0));
        Check.refused(IllegalStateException.class, x, () -> x.get(0, 0, 0));
        Check.refused(IllegalStateException.class, x, () -> x.read(4));
        Check.refused(IllegalStateException.class, x, () -> x.fill(4));
        Check.refused(IllegalStateException.class, x, () -> x.write(0, 1, 't'));
        Check.refused(IllegalStateException.class, x, () -> x.write(0, 1, 'b'));
        Check.refused(IllegalStateException.class, x, () -> x.drop(0));
        Check.refused(IllegalStateException.class, x, () -> x.bump(0));
        Check.refused(IllegalStateException.class, x, () -> x.crash());
    }

    private static void whatIsDoneWhileDown() {
        Check.sentence(14, "Until it is recovered, the cache is down.");
        SlipstreamCache x = Check.withFlash();
        x.crash();
        Check.due(2, x.write(0, 99, 'a'));
        Check.due(0, x.pass(3));
        Check.due(3, x.minute());
        Check.due(5, x.messages());
        Check.due(true, x.deliver(4));
        Check.due(99, x.mirrored(0));
        Check.due(true, x.isHonest());
        x.recover();
        // Its entry is of the minute 0, and of the version before.
        Check.due('m', x.get(0, 3, 0));
        Check.due(10, x.value());
        Check.due(3, x.staleness());
    }

    private static void recoverWhileUp() {
        Check.sentence(15, "if the cache is not down");
        SlipstreamCache x = Check.withFlash();
        x.write(1, 1, 'b');
        Check.refused(IllegalStateException.class, x, () -> x.recover());
        x.crash();
        Check.due(1, x.recover());
        Check.refused(IllegalStateException.class, x, () -> x.recover());
    }

    private static void recoverOfNothing() {
        Check.sentence(15, "Returns the number of keys in the index then.");
        SlipstreamCache x = new SlipstreamCache();
        x.crash();
        Check.due(0, x.recover());
        Check.due(0, x.used());
        SlipstreamCache y = Check.flashOf(16);
        y.crash();
        Check.due(16, y.recover());
        Check.due(12, y.used());
        for (int key = 3; key < 16; key++) {
            Check.due('f', y.where(key));
        }
    }

    private static void promisesInTheirTurns() {
        Check.sentence(15, "first, all promised values are written, in the order of their turns");
        SlipstreamCache x = new SlipstreamCache();
        x.setKey(8, 1, 5, 0);
        x.setKey(6, 1, 5, 0);
        x.write(31, 31, 'b');
        x.pass(2);
        int[] written = {8, 6, 2, 0};
        for (int key : written) {
            x.write(key, key + 1, 'b');
        }
        x.crash();
        Check.due(0, x.recover());
        Check.due(0, x.promises());
        Check.due(5, x.messages());
        int[] turns = {31, 6, 8, 0, 2};
        for (int key : turns) {
            Check.due(0, x.mirrored(key));
            Check.due(true, x.deliver(0));
            Check.due(x.stored(key), x.mirrored(key));
        }
        // They are in the store alone.
        Check.due('-', x.where(31));
        Check.due(0, x.used());
    }

    private static void promisesOfLongAgo() {
        Check.sentence(15, "first, all promised values are written");
        SlipstreamCache x = new SlipstreamCache();
        x.write(4, 40, 'b');
        x.crash();
        x.pass(60);
        x.write(4, 41, 'a');
        Check.due(0, x.recover());
        Check.due(40, x.stored(4));
        Check.due(2, x.messages());
        Check.due(false, x.deliver(1) && x.deliver(0));
        Check.due(40, x.mirrored(4));
        Check.due(0, x.pass(3));
    }

    private static void newestSlotOfTheRing() {
        Check.sentence(15, "second, the slots are gone through by rising numbers");
        SlipstreamCache x = Check.flashOf(17);
        x.crash();
        Check.due(13, x.recover());
        Check.due('-', x.where(3));
        Check.due('m', x.where(4));
        Check.due('m', x.where(6));
        Check.due('f', x.where(7));
        Check.due('f', x.where(16));
    }

    private static void markBehindTheEndOfTheRing() {
        Check.sentence(15, "each mark taking it out");
        SlipstreamCache x = Check.flashOf(16);
        x.drop(15);
        // The mark is in the first slot, its entry in the last one.
        Check.slots(x, 0, 115, -1, -1, -1);
        Check.slots(x, 3, 12, 13, 14, 15);
        x.crash();
        Check.due(11, x.recover());
        Check.due('-', x.where(15));
        Check.due('m', x.where(4));
    }

    private static void entryBehindAMark() {
        Check.sentence(15, "each one of an entry being in the index for its key");
        SlipstreamCache x = Check.flashOf(15);
        x.drop(14);
        Check.toFlash(x, 14, 4, 9);
        // The newer entry is in the first slot, the mark in the last one.
        Check.slots(x, 0, 14, -1, -1, -1);
        Check.slots(x, 3, 12, 13, 14, 114);
        x.crash();
        Check.due(11, x.recover());
        Check.due('m', x.where(14));
    }

    private static void markTakesOut() {
        Check.sentence(15, "each mark taking it out");
        SlipstreamCache x = Check.flashOf(3);
        x.drop(0);
        x.write(1, 1, 't');
        Check.due('f', x.get(2, 0, 0));
        Check.slots(x, 0, 0, 1, 2, 100);
        Check.slots(x, 1, 101, 102, -1, -1);
        x.crash();
        Check.due(0, x.recover());
        for (int key = 0; key < 3; key++) {
            Check.due('-', x.where(key));
        }
    }

    private static void oldNumbers() {
        Check.sentence(15, "entries whose number of the group is not the present one are not in the index");
        SlipstreamCache x = Check.flashOf(2);
        x.setKey(5, 4, 1, 3);
        Check.miss(x, 5, 2);
        Check.readAndFill(x, x.lease(), 'i');
        Check.push(x);
        Check.slots(x, 0, 0, 1, 5, -1);
        x.bump(0);
        Check.due('f', x.where(0));
        x.crash();
        Check.due(1, x.recover());
        Check.due('-', x.where(0));
        Check.due('-', x.where(1));
        Check.due('m', x.where(5));
        Check.slots(x, 0, 0, 1, 5, -1);
        // No mark is due for what is in no index.
        x.drop(0);
        Check.slots(x, 0, 0, 1, 5, -1);
    }

    private static void oldNumberOverAnOlderSlot() {
        Check.sentence(15, "entries whose number of the group is not the present one are not in the index");
        SlipstreamCache x = Check.flashOf(1);
        x.bump(0);
        Check.miss(x, 0, 2);
        Check.readAndFill(x, x.lease(), 'i');
        Check.push(x);
        // The older slot has the old number, the newer one the present one.
        Check.slots(x, 0, 0, 0, -1, -1);
        x.crash();
        Check.due(1, x.recover());
        Check.due('m', x.get(0, 0, 0));
        x.bump(0);
        x.crash();
        Check.due(0, x.recover());
        Check.due('-', x.where(0));
    }

    /** A reading: an older slot does not come in the place of the newest one, though its number is the present one. */
    private static void newestSlotHasAnOldNumber() {
        Check.sentence(15, "A key has at most one slot in the index, the one written last.");
        SlipstreamCache x = Check.flashOf(1);
        x.bump(0);
        x.crash();
        Check.due(0, x.recover());
        x.setKey(0, 4, 1, 1);
        x.bump(1);
        Check.miss(x, 0, 2);
        Check.readAndFill(x, x.lease(), 'i');
        Check.push(x);
        Check.slots(x, 0, 0, 0, -1, -1);
        x.bump(1);
        x.crash();
        Check.due(0, x.recover());
        // The group 2 has the number 0 yet, as the older slot has.
        x.setKey(0, 4, 1, 2);
        x.crash();
        Check.due(0, x.recover());
        Check.due('-', x.where(0));
        Check.sentence(15, "entries whose number of the group is not the present one are not in the index");
        x.bump(2);
        x.crash();
        Check.due(1, x.recover());
        Check.due('m', x.where(0));
        x.get(0, 0, 0);
        Check.due(0, x.value());
    }

    private static void comingUpToTheRoom() {
        Check.sentence(15, "third, the keys in the index come to the memory as long as there is room");
        int[] sizes = {4, 4, 4, 1};
        SlipstreamCache x = Check.flashOf(sizes, Check.times(4, 1), 0);
        x.crash();
        Check.due(4, x.recover());
        Check.due(12, x.used());
        Check.due('m', x.where(2));
        Check.due('f', x.where(3));
        Check.sentence(15, "they stay in the flash");
        Check.slots(x, 0, 0, 1, 2, 3);
        Check.push(x);
        for (int key = 0; key < 4; key++) {
            Check.due('f', x.where(key));
        }
    }

    private static void comingByCost() {
        Check.sentence(15, "those with the greatest cost first");
        SlipstreamCache x = Check.flashOf(Check.times(5, 4), new int[] {7, 8, 1, 9, 8}, 1);
        x.crash();
        Check.due(5, x.recover());
        Check.due('f', x.where(0));
        Check.due('m', x.where(1));
        Check.due('f', x.where(2));
        Check.due('m', x.where(3));
        Check.due('m', x.where(4));
    }

    private static void comingByMinute() {
        Check.sentence(15, "of several the one read last");
        SlipstreamCache x = Check.flashOf(Check.times(5, 4), Check.times(5, 3), 1);
        x.crash();
        Check.due(5, x.recover());
        Check.due('f', x.where(0));
        Check.due('f', x.where(1));
        Check.due('m', x.where(2));
        Check.due('m', x.where(4));
        Check.due('m', x.get(4, 1, 0));
        Check.due('l', x.get(4, 0, 0));
    }

    private static void comingByKey() {
        Check.sentence(15, "of several the lowest key");
        SlipstreamCache x = new SlipstreamCache();
        for (int key = 6; key >= 2; key--) {
            Check.toFlash(x, key, 4, 2);
        }
        x.crash();
        Check.due(5, x.recover());
        for (int key = 2; key <= 6; key++) {
            Check.due(key <= 4 ? 'm' : 'f', x.where(key));
        }
    }

    private static void passedOver() {
        Check.sentence(15, "one that has no room being passed over");
        int[] sizes = {4, 4, 3, 2, 4, 1, 1};
        int[] costs = {9, 8, 7, 6, 5, 4, 3};
        SlipstreamCache x = Check.flashOf(sizes, costs, 0);
        x.crash();
        Check.due(7, x.recover());
        char[] places = {'m', 'm', 'm', 'f', 'f', 'm', 'f'};
        for (int key = 0; key < 7; key++) {
            Check.due(places[key], x.where(key));
        }
        Check.due(12, x.used());
    }

    /** A reading: they come one behind the other, so that the first of them was used longest ago. */
    private static void comingIsUse() {
        Check.sentence(15, "An entry is used when it comes");
        SlipstreamCache x = Check.flashOf(Check.times(3, 4), new int[] {1, 9, 5}, 0);
        x.crash();
        Check.due(3, x.recover());
        int[] going = {1, 2, 0};
        for (int step = 0; step < 3; step++) {
            Check.due('m', x.where(going[step]));
            x.setKey(9 + step, 4, 1, 0);
            Check.due('i', Check.load(x, 9 + step));
            Check.due('f', x.where(going[step]));
            Check.due(12, x.used());
        }
    }

    private static void nextSlotGoesOn() {
        Check.sentence(14, "the flash, with its next slot and its wear");
        SlipstreamCache x = Check.flashOf(3);
        x.crash();
        Check.due(3, x.recover());
        Check.due(true, x.drop(0));
        Check.slots(x, 0, 0, 1, 2, 100);
        Check.due(0, x.wear(1));
        x.crash();
        Check.due(2, x.recover());
        Check.toFlash(x, 7, 4, 1);
        Check.slots(x, 0, 0, 1, 2, 100);
        Check.slots(x, 1, 7, -1, -1, -1);
        Check.due(1, x.wear(0));
        Check.due(1, x.wear(1));
    }

    private static void severalCrashes() {
        Check.sentence(15, "each one of an entry being in the index for its key");
        SlipstreamCache x = Check.withFlash();
        for (int time = 0; time < 5; time++) {
            Check.due(time == 0 ? 3 : 1, x.crash());
            Check.due(1, x.recover());
            Check.due('m', x.where(0));
            Check.due(4, x.used());
            Check.slots(x, 0, 0, -1, -1, -1);
        }
        Check.due(1, x.wear(0));
    }
}
