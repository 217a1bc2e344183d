import java.util.NoSuchElementException;

/** The boundary cases of the flash's ring: promises 11, 17, 20, 21 and 22. */
final class FlashBoundaries {
    private FlashBoundaries() {
    }

    static void run() {
        estimateOfTwo();
        estimateOfThatTime();
        firstSlot();
        lastSlotOfASegment();
        lastSegment();
        segmentsBegunAnew();
        wearOfTheFirstTime();
        wearByAMark();
        keysLoseTheIndex();
        newerSlotIsKept();
        oldSlotIsEmptied();
        slotWrittenLast();
        markOfASlot();
        noMarkWithoutASlot();
        markOfTheBegunSegment();
        marksAlone();
        segmentsAndSlots();
        segmentsOfWear();
        whereItIs();
        versionOfWhatIsThere();
    }

    private static void estimateOfTwo() {
        Check.sentence(21, "An entry that goes from the memory for room goes to the flash, if its estimate is 2 or more.");
        SlipstreamCache x = new SlipstreamCache();
        x.setKey(0, 4, 9, 0);
        x.setKey(1, 4, 9, 0);
        x.setKey(2, 4, 9, 0);
        int[] times = {1, 2, 3};
        for (int key = 0; key < 3; key++) {
            Check.miss(x, key, times[key]);
            Check.readAndFill(x, key, 'i');
        }
        x.setKey(30, 4, 1, 0);
        x.write(30, 1, 'b');
        Check.due('-', x.where(0));
        Check.due(-1, x.slot(0, 0));
        Check.due(0, x.wear(0));
        x.setKey(31, 4, 1, 0);
        x.write(31, 1, 'b');
        Check.due('f', x.where(1));
        Check.slots(x, 0, 1, -1, -1, -1);
    }

    private static void estimateOfThatTime() {
        Check.sentence(21, "goes to the flash, if its estimate is 2 or more");
        SlipstreamCache x = new SlipstreamCache();
        Check.miss(x, 1, 3);
        Check.readAndFill(x, 0, 'i');
        Check.due(3, x.estimate(1));
        for (int time = 4; time <= 64; time++) {
            x.get(2, 0, 0);
        }
        Check.due(1, x.estimate(1));
        Check.push(x);
        Check.due('-', x.where(1));
        Check.slots(x, 0, -1, -1, -1, -1);
    }

    private static void firstSlot() {
        Check.sentence(21, "What goes to the flash comes to the next slot, 0 of the segment 0 at first");
        SlipstreamCache x = Check.flashOf(1);
        Check.slots(x, 0, 0, -1, -1, -1);
        for (int segment = 1; segment < 4; segment++) {
            Check.slots(x, segment, -1, -1, -1, -1);
        }
    }

    private static void lastSlotOfASegment() {
        Check.sentence(21, "behind the last slot of a segment comes the first one of the next segment");
        SlipstreamCache x = Check.flashOf(4);
        Check.slots(x, 0, 0, 1, 2, 3);
        Check.slots(x, 1, -1, -1, -1, -1);
        Check.toFlash(x, 4, 4, 1);
        Check.slots(x, 0, 0, 1, 2, 3);
        Check.slots(x, 1, 4, -1, -1, -1);
        Check.due('f', x.where(0));
    }

    private static void lastSegment() {
        Check.sentence(21, "behind the last segment the first one");
        SlipstreamCache x = Check.flashOf(16);
        Check.slots(x, 0, 0, 1, 2, 3);
        Check.slots(x, 3, 12, 13, 14, 15);
        Check.toFlash(x, 16, 4, 1);
        Check.slots(x, 0, 16, -1, -1, -1);
        Check.slots(x, 1, 4, 5, 6, 7);
        Check.slots(x, 3, 12, 13, 14, 15);
    }

    private static void segmentsBegunAnew() {
        Check.sentence(22, "it is begun anew: all of its slots are empty first, and its wear grows by 1");
        SlipstreamCache x = Check.flashOf(20);
        Check.slots(x, 0, 16, 17, 18, 19);
        Check.slots(x, 1, 4, 5, 6, 7);
        int[] wears = {2, 1, 1, 1};
        for (int segment = 0; segment < 4; segment++) {
            Check.due(wears[segment], x.wear(segment));
        }
        Check.toFlash(x, 20, 4, 1);
        Check.slots(x, 1, 20, -1, -1, -1);
        Check.due(2, x.wear(1));
        Check.due('-', x.where(7));
        Check.due('f', x.where(8));
    }

    private static void wearOfTheFirstTime() {
        Check.sentence(22, "when the first slot of a segment is to be written, also for the first time");
        SlipstreamCache x = new SlipstreamCache();
        for (int key = 0; key < 9; key++) {
            for (int segment = 0; segment < 4; segment++) {
                Check.due(key > segment * 4 ? 1 : 0, x.wear(segment));
            }
            Check.toFlash(x, key, 4, 1);
        }
        Check.due(1, x.wear(2));
        Check.due(0, x.wear(3));
    }

    private static void wearByAMark() {
        Check.sentence(22, "and its wear grows by 1");
        SlipstreamCache x = Check.flashOf(4);
        Check.due(0, x.wear(1));
        x.drop(3);
        Check.due(1, x.wear(1));
        x.drop(2);
        Check.due(1, x.wear(1));
        Check.slots(x, 1, 103, 102, -1, -1);
    }

    private static void keysLoseTheIndex() {
        Check.sentence(17, "When a segment is begun anew, its keys in the index lose it.");
        SlipstreamCache x = Check.flashOf(17);
        for (int key = 0; key < 4; key++) {
            int lost = key;
            Check.due('-', x.where(key));
            Check.refused(NoSuchElementException.class, x, () -> x.versionOf(lost));
            Check.due(false, x.drop(key));
            Check.due(0, x.setKey(key, 1, 1, 0));
        }
        for (int key = 4; key < 17; key++) {
            Check.due('f', x.where(key));
        }
        Check.slots(x, 0, 16, -1, -1, -1);
    }

    /** The key 0 has a slot of an older number in the segment 0, and its last one in the segment 1. */
    private static SlipstreamCache withTwoSlotsOfZero() {
        SlipstreamCache x = Check.flashOf(4);
        x.crash();
        Check.due(4, x.recover());
        Check.due('m', x.get(0, 0, 0));
        Check.due('m', x.get(0, 0, 0));
        // 1 and 2 have the estimate 0, and go nowhere.
        Check.push(x);
        Check.slots(x, 0, 0, 1, 2, 3);
        Check.slots(x, 1, 0, -1, -1, -1);
        return x;
    }

    private static void newerSlotIsKept() {
        Check.sentence(17, "its keys in the index lose it");
        SlipstreamCache x = withTwoSlotsOfZero();
        for (int key = 4; key < 16; key++) {
            Check.toFlash(x, key, 4, 1);
        }
        Check.slots(x, 0, 15, -1, -1, -1);
        Check.due('f', x.where(0));
        Check.due('-', x.where(1));
        Check.due('-', x.where(2));
        Check.due('-', x.where(3));
    }

    private static void oldSlotIsEmptied() {
        Check.sentence(21, "all of its slots are empty first");
        SlipstreamCache x = Check.flashOf(15);
        x.drop(14);
        Check.slots(x, 3, 12, 13, 14, 114);
        x.drop(0);
        Check.slots(x, 0, 100, -1, -1, -1);
        x.drop(1);
        Check.slots(x, 0, 100, -1, -1, -1);
        x.drop(4);
        Check.slots(x, 0, 100, 104, -1, -1);
    }

    private static void slotWrittenLast() {
        Check.sentence(21, "A key has at most one slot in the index, the one written last.");
        SlipstreamCache x = withTwoSlotsOfZero();
        Check.due(true, x.drop(0));
        Check.slots(x, 1, 0, 100, -1, -1);
        Check.due('-', x.where(0));
        Check.due(false, x.drop(0));
        Check.slots(x, 1, 0, 100, -1, -1);
    }

    private static void markOfASlot() {
        Check.sentence(11, "a mark that it is out comes to the next slot in the same way, and it has no slot in the index"
                + " any more");
        SlipstreamCache x = Check.flashOf(4);
        Check.due(true, x.drop(2));
        Check.due('-', x.where(2));
        x.write(3, 1, 't');
        Check.due('-', x.where(3));
        x.write(1, 1, 'b');
        Check.due('p', x.where(1));
        Check.slots(x, 0, 0, 1, 2, 3);
        Check.slots(x, 1, 102, 103, 101, -1);
        x.drop(1);
        Check.due('-', x.where(1));
        Check.slots(x, 1, 102, 103, 101, -1);
    }

    private static void noMarkWithoutASlot() {
        Check.sentence(11, "When a key is taken out of the flash and it has a slot in the index");
        SlipstreamCache x = Check.flashOf(1);
        x.drop(5);
        x.write(5, 1, 't');
        x.write(5, 1, 'b');
        x.drop(5);
        Check.slots(x, 0, 0, -1, -1, -1);
        x.drop(0);
        x.drop(0);
        x.write(0, 1, 't');
        x.write(0, 1, 'b');
        Check.slots(x, 0, 0, 100, -1, -1);
    }

    private static void markOfTheBegunSegment() {
        Check.sentence(21, "a mark that it is out comes to the next slot in the same way");
        SlipstreamCache x = Check.flashOf(16);
        Check.due(true, x.drop(1));
        Check.slots(x, 0, 101, -1, -1, -1);
        Check.due(2, x.wear(0));
        for (int key = 0; key < 4; key++) {
            Check.due('-', x.where(key));
        }
        Check.due('f', x.where(4));
        Check.due(false, x.drop(1));
        Check.slots(x, 0, 101, -1, -1, -1);
    }

    private static void marksAlone() {
        Check.sentence(21, "100 plus the key for a mark");
        SlipstreamCache x = new SlipstreamCache();
        Check.toFlash(x, 28, 1, 1);
        Check.toFlash(x, 0, 1, 1);
        x.drop(28);
        x.drop(0);
        Check.slots(x, 0, 28, 0, 128, 100);
    }

    private static void segmentsAndSlots() {
        Check.sentence(21, "if there is no such segment or slot");
        SlipstreamCache x = Check.flashOf(16);
        Check.due(0, x.slot(0, 0));
        Check.due(3, x.slot(0, 3));
        Check.due(12, x.slot(3, 0));
        Check.due(15, x.slot(3, 3));
        for (int number : new int[] {-1, 4, Integer.MIN_VALUE, Integer.MAX_VALUE}) {
            Check.refused(IndexOutOfBoundsException.class, x, () -> x.slot(number, 0));
            Check.refused(IndexOutOfBoundsException.class, x, () -> x.slot(0, number));
            Check.refused(IndexOutOfBoundsException.class, x, () -> x.slot(number, number));
        }
        Check.refused(IndexOutOfBoundsException.class, x, () -> x.slot(4, -4));
        Check.refused(IndexOutOfBoundsException.class, x, () -> x.slot(-1, 7));
    }

    private static void segmentsOfWear() {
        Check.sentence(22, "if there is no such segment");
        SlipstreamCache x = Check.flashOf(13);
        Check.due(1, x.wear(0));
        Check.due(1, x.wear(3));
        for (int segment : new int[] {-1, 4, Integer.MIN_VALUE, Integer.MAX_VALUE}) {
            Check.refused(IndexOutOfBoundsException.class, x, () -> x.wear(segment));
        }
    }

    private static void whereItIs() {
        Check.sentence(17, "Returns 'p' promised in the memory, 'm' in the memory, 'f' in the flash alone, '-' in neither.");
        SlipstreamCache x = Check.withFlash();
        Check.due('f', x.where(0));
        Check.due('m', x.where(1));
        Check.due('-', x.where(31));
        x.write(1, 1, 'b');
        Check.due('p', x.where(1));
        x.pass(2);
        Check.due('p', x.where(1));
        x.pass(1);
        Check.due('m', x.where(1));
        x.write(1, 1, 'b');
        x.crash();
        // It waits still, but in no memory.
        Check.due('-', x.where(1));
        Check.due('-', x.where(0));
        x.recover();
        Check.due('m', x.where(0));
        Check.sentence(17, "if there is no such key");
        for (int key : new int[] {-1, 32, Integer.MIN_VALUE, Integer.MAX_VALUE}) {
            Check.refused(IndexOutOfBoundsException.class, x, () -> x.where(key));
        }
    }

    private static void versionOfWhatIsThere() {
        Check.sentence(20, "Returns the version that an entry of a key has, in the memory or else in the flash.");
        SlipstreamCache x = Check.withFlash();
        x.write(0, 1, 'a');
        x.pass(1);
        Check.due(1, x.versionOf(0));
        Check.miss(x, 0, 3);
        Check.readAndFill(x, 4, 'i');
        Check.due(2, x.versionOf(0));
        x.write(0, 1, 'b');
        Check.due(3, x.versionOf(0));
        Check.sentence(20, "if it is in neither");
        Check.refused(NoSuchElementException.class, x, () -> x.versionOf(31));
        x.drop(0);
        Check.refused(NoSuchElementException.class, x, () -> x.versionOf(0));
        x.write(0, 1, 't');
        Check.refused(NoSuchElementException.class, x, () -> x.versionOf(0));
        Check.sentence(20, "if there is no such key");
        for (int key : new int[] {-1, 32, Integer.MIN_VALUE, Integer.MAX_VALUE}) {
            Check.refused(IndexOutOfBoundsException.class, x, () -> x.versionOf(key));
        }
    }
}
