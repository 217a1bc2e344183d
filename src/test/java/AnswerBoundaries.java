import java.util.NoSuchElementException;

/** The boundary cases of answers and leases: promises 3 to 9. */
final class AnswerBoundaries {
    private static final int[] OUTSIDE_KEYS = {-1, 32, 100, Integer.MIN_VALUE, Integer.MAX_VALUE};
    private static final int[] OUTSIDE_MINUTES = {-1, 61, Integer.MIN_VALUE, Integer.MAX_VALUE};

    private AnswerBoundaries() {
    }

    static void run() {
        keysOfGet();
        bounds();
        graces();
        goodUpToTheBound();
        ageIsThatOfTheReading();
        goodByTheGroupsNumber();
        promisedIsAlwaysGood();
        memoryAheadOfFlash();
        graceWithoutLease();
        graceUpToItsEnd();
        staleFromMemoryAheadOfFlash();
        nothingToAnswer();
        flashAnswerWithRoom();
        flashAnswerWithoutRoom();
        staleAnswerFromFlash();
        ownSlotIsLostByTheComing();
        getWhileDown();
        sixtyLeases();
        firstExceptionOfGet();
        valueOfNoAnswer();
        valueBehindRefusedCalls();
        stalenessOfNoAnswer();
        stalenessOfThatTime();
        leaseOfNone();
        leaseNumbers();
    }

    private static void keysOfGet() {
        Check.sentence(3, "the key, 0 to 31");
        SlipstreamCache x = new SlipstreamCache();
        Check.due('l', x.get(0, 0, 0));
        Check.due('l', x.get(31, 0, 0));
        Check.sentence(3, "if there is no such key");
        for (int key : OUTSIDE_KEYS) {
            Check.refused(IndexOutOfBoundsException.class, x, () -> x.get(key, 0, 0));
        }
    }

    private static void bounds() {
        Check.sentence(3, "the bound in minutes, 0 to 60");
        SlipstreamCache x = new SlipstreamCache();
        Check.load(x, 4);
        Check.due('m', x.get(4, 0, 0));
        Check.due('m', x.get(4, 60, 0));
        Check.sentence(3, "if a number is out of range");
        for (int bound : OUTSIDE_MINUTES) {
            Check.refused(IllegalArgumentException.class, x, () -> x.get(4, bound, 0));
        }
    }

    private static void graces() {
        Check.sentence(3, "the grace in minutes, 0 to 60");
        SlipstreamCache x = new SlipstreamCache();
        Check.load(x, 4);
        Check.due('m', x.get(4, 0, 0));
        Check.due('m', x.get(4, 0, 60));
        Check.sentence(3, "if a number is out of range");
        for (int grace : OUTSIDE_MINUTES) {
            Check.refused(IllegalArgumentException.class, x, () -> x.get(4, 0, grace));
        }
    }

    private static void goodUpToTheBound() {
        Check.sentence(3, "it was read no more minutes ago than the bound of the question");
        SlipstreamCache x = new SlipstreamCache();
        Check.load(x, 5);
        Check.due('m', x.get(5, 0, 0));
        x.pass(1);
        Check.due('m', x.get(5, 1, 0));
        Check.due('l', x.get(5, 0, 0));
        x.pass(59);
        Check.due('m', x.get(5, 60, 0));
        Check.due('l', x.get(5, 59, 0));
        x.pass(1);
        Check.due('w', x.get(5, 60, 0));
    }

    private static void ageIsThatOfTheReading() {
        Check.sentence(3, "it was read no more minutes ago than the bound of the question");
        SlipstreamCache x = new SlipstreamCache();
        x.get(5, 0, 0);
        x.pass(1);
        x.read(0);
        x.pass(4);
        Check.due('i', x.fill(0));
        Check.due('m', x.get(5, 4, 0));
        Check.due('l', x.get(5, 3, 0));
    }

    private static void goodByTheGroupsNumber() {
        Check.sentence(3, "An entry is good if its group's number is the present one");
        SlipstreamCache x = new SlipstreamCache();
        x.setKey(4, 1, 1, 2);
        Check.load(x, 4);
        x.bump(0);
        x.bump(1);
        x.bump(3);
        Check.due('m', x.get(4, 0, 0));
        x.bump(2);
        Check.due('l', x.get(4, 60, 0));
        Check.due('w', x.get(4, 60, 60));
        SlipstreamCache y = Check.withFlash();
        y.bump(0);
        Check.due('f', y.where(0));
        Check.due('l', y.get(0, 60, 60));
        Check.due('w', y.get(0, 60, 60));
    }

    private static void promisedIsAlwaysGood() {
        Check.sentence(3, "a promised one is always good");
        SlipstreamCache x = new SlipstreamCache();
        x.write(7, 70, 'b');
        x.pass(2);
        Check.due('m', x.get(7, 0, 0));
        Check.due(70, x.value());
        x.pass(1);
        // Written now, it is of now.
        Check.due('m', x.get(7, 0, 0));
        x.pass(1);
        Check.due('l', x.get(7, 0, 0));
    }

    private static void memoryAheadOfFlash() {
        Check.sentence(3, "The answer is the entry of the memory, if it is good, 'm'; otherwise that of the slot in the"
                + " index, if it is good, 'f'.");
        SlipstreamCache x = Check.withFlash();
        Check.due('m', x.get(1, 0, 0));
        Check.due('f', x.get(0, 0, 0));
        x.crash();
        Check.due(1, x.recover());
        // The key 0 is in both now; the answer from the memory leaves the slot as it is.
        Check.due('m', x.get(0, 0, 0));
        Check.slots(x, 0, 0, -1, -1, -1);
    }

    private static void graceWithoutLease() {
        Check.sentence(3, "Otherwise, if a lease of the key is out, the answer is");
        SlipstreamCache x = new SlipstreamCache();
        Check.load(x, 5);
        x.pass(2);
        Check.due('l', x.get(5, 1, 60));
        Check.due('s', x.get(5, 1, 60));
        x.pass(5);
        Check.due('s', x.get(5, 1, 60));
        x.pass(1);
        // The lease is void, so that the grace does not count.
        Check.due('l', x.get(5, 1, 60));
        Check.readAndFill(x, 2, 'i');
        x.pass(2);
        Check.due('l', x.get(5, 1, 60));
    }

    private static void graceUpToItsEnd() {
        Check.sentence(3, "that would be good with a bound greater by the grace, 's'");
        SlipstreamCache x = new SlipstreamCache();
        Check.load(x, 5);
        x.write(5, 9, 'a');
        x.pass(60);
        x.pass(60);
        Check.due('l', x.get(5, 60, 60));
        Check.due('w', x.get(5, 60, 59));
        Check.due('w', x.get(5, 59, 60));
        Check.due('s', x.get(5, 60, 60));
        Check.due(0, x.value());
        Check.due(120, x.staleness());
        Check.due(true, x.isHonest());
        x.pass(1);
        Check.due('w', x.get(5, 60, 60));
    }

    private static void staleFromMemoryAheadOfFlash() {
        Check.sentence(3, "the answer is the entry of the memory, or else that of the slot in the index");
        SlipstreamCache x = Check.withFlash();
        x.write(0, 50, 'a');
        x.pass(2);
        Check.miss(x, 0, 3);
        Check.readAndFill(x, 4, 'i');
        // Read in the minute 2 in the memory, and in the minute 0 in the flash.
        x.pass(3);
        Check.due('l', x.get(0, 0, 60));
        Check.due('w', x.get(0, 0, 2));
        Check.due('s', x.get(0, 0, 3));
        Check.due(50, x.value());
        Check.due('s', x.get(0, 0, 5));
        Check.due(50, x.value());
        Check.due('m', x.get(0, 3, 0));
    }

    private static void nothingToAnswer() {
        Check.sentence(3, "and if there is none, nothing is, 'w'");
        SlipstreamCache x = new SlipstreamCache();
        Check.due('l', x.get(5, 60, 60));
        Check.due('w', x.get(5, 60, 60));
        Check.refused(NoSuchElementException.class, x, () -> x.value());
        Check.sentence(3, "Otherwise, a lease is given, 'l'.");
        Check.due(0, x.lease());
        Check.due('l', x.get(21, 60, 60));
        Check.due(1, x.lease());
        Check.refused(NoSuchElementException.class, x, () -> x.value());
    }

    private static void flashAnswerWithRoom() {
        Check.sentence(3, "comes to the memory, as it is, if there is room as above, and if it comes, the key is taken"
                + " out of the flash");
        SlipstreamCache x = Check.withFlash();
        x.drop(3);
        x.pass(2);
        Check.due('f', x.get(0, 2, 0));
        Check.due('m', x.where(0));
        Check.due(12, x.used());
        Check.slots(x, 0, 0, 100, -1, -1);
        // As it is: read in the minute 0, with the version of then.
        Check.due(1, x.versionOf(0));
        Check.due('l', x.get(0, 1, 0));
        Check.due('m', x.get(0, 2, 0));
    }

    private static void flashAnswerWithoutRoom() {
        Check.sentence(3, "comes to the memory, as it is, if there is room as above, and if it comes, the key is taken"
                + " out of the flash");
        SlipstreamCache x = Check.withFlash();
        Check.due('f', x.get(0, 0, 0));
        Check.due(10, x.value());
        Check.due('f', x.where(0));
        Check.due('m', x.where(1));
        Check.slots(x, 0, 0, -1, -1, -1);
        for (int key = 1; key <= 3; key++) {
            x.write(key, 1, 'b');
        }
        // All of the memory is promised, so that no worth is enough.
        for (int time = 0; time < 5; time++) {
            Check.due('f', x.get(0, 0, 0));
        }
        Check.due('f', x.where(0));
        Check.slots(x, 0, 0, -1, -1, -1);
    }

    private static void staleAnswerFromFlash() {
        Check.sentence(3, "An entry of the flash that is the answer, also by 's', comes to the memory");
        SlipstreamCache x = Check.withFlash();
        x.pass(1);
        Check.due('l', x.get(0, 0, 1));
        Check.due('s', x.get(0, 0, 1));
        // The worth was 3 then, not more than the least one.
        Check.due('f', x.where(0));
        Check.due('s', x.get(0, 0, 1));
        Check.due('m', x.where(0));
        Check.slots(x, 0, 0, 1, 100, -1);
        Check.due('s', x.get(0, 0, 1));
        Check.slots(x, 0, 0, 1, 100, -1);
    }

    private static void ownSlotIsLostByTheComing() {
        Check.sentence(3, "if it comes, the key is taken out of the flash");
        SlipstreamCache x = Check.flashOf(16);
        Check.miss(x, 17, 2);
        Check.readAndFill(x, 16, 'i');
        x.write(29, 1, 'b');
        x.write(30, 1, 'b');
        // The key 17 has the worth 4; the key 0 comes when it has 5.
        for (int time = 0; time < 3; time++) {
            Check.due('f', x.get(0, 0, 0));
            Check.due('f', x.where(0));
        }
        Check.due('f', x.get(0, 0, 0));
        // 17 has gone to the first slot; by that the segment has lost the key 0, so that no mark is due.
        Check.due('m', x.where(0));
        Check.slots(x, 0, 17, -1, -1, -1);
        Check.due('-', x.where(1));
        Check.due('f', x.where(4));
        Check.due('m', x.get(0, 0, 0));
    }

    private static void getWhileDown() {
        Check.sentence(3, "if the cache is down");
        SlipstreamCache x = new SlipstreamCache();
        Check.load(x, 4);
        x.crash();
        Check.refused(IllegalStateException.class, x, () -> x.get(4, 0, 0));
        x.recover();
        Check.due('l', x.get(4, 0, 0));
    }

    private static void sixtyLeases() {
        Check.sentence(3, "if a lease would be given, and 60 were");
        SlipstreamCache x = withAllLeases();
        Check.due(59, x.lease());
        Check.refused(UnsupportedOperationException.class, x, () -> x.get(29, 60, 60));
        // What needs no new lease is answered.
        Check.due('w', x.get(1, 60, 60));
        Check.due('m', x.get(0, 60, 60));
        x.pass(1);
        Check.refused(UnsupportedOperationException.class, x, () -> x.get(0, 0, 60));
        Check.due('m', x.get(0, 1, 60));
        x.crash();
        x.recover();
        Check.refused(UnsupportedOperationException.class, x, () -> x.get(1, 60, 60));
    }

    /** 60 leases were given; the key 0 is in the memory, and the keys 28 to 31 have no lease out. */
    static SlipstreamCache withAllLeases() {
        SlipstreamCache x = new SlipstreamCache();
        for (int key = 0; key < 32; key++) {
            Check.due('l', x.get(key, 60, 60));
        }
        x.pass(6);
        for (int key = 0; key < 28; key++) {
            Check.due('l', x.get(key, 60, 60));
        }
        Check.readAndFill(x, 32, 'i');
        return x;
    }

    private static void firstExceptionOfGet() {
        Check.sentence(3, "If several exceptions apply, the exception listed first is thrown.");
        SlipstreamCache x = withAllLeases();
        Check.refused(IllegalArgumentException.class, x, () -> x.get(29, 61, 0));
        Check.refused(IndexOutOfBoundsException.class, x, () -> x.get(-1, 61, 0));
        x.crash();
        Check.refused(IllegalStateException.class, x, () -> x.get(29, 60, 0));
        Check.refused(IllegalArgumentException.class, x, () -> x.get(29, 0, -1));
        Check.refused(IndexOutOfBoundsException.class, x, () -> x.get(32, 0, -1));
    }

    private static void valueOfNoAnswer() {
        Check.sentence(4, "if the last get() gave none, or there was none");
        SlipstreamCache x = new SlipstreamCache();
        Check.refused(NoSuchElementException.class, x, () -> x.value());
        x.write(3, 33, 'b');
        Check.refused(NoSuchElementException.class, x, () -> x.value());
        x.get(3, 0, 0);
        Check.due(33, x.value());
        x.get(4, 0, 0);
        Check.refused(NoSuchElementException.class, x, () -> x.value());
        x.get(3, 0, 0);
        Check.due(33, x.value());
        x.get(4, 0, 0);
        Check.refused(NoSuchElementException.class, x, () -> x.value());
    }

    private static void valueBehindRefusedCalls() {
        Check.sentence(4, "A method that throws an exception changes nothing.");
        SlipstreamCache x = withAllLeases();
        x.write(0, 8, 't');
        Check.due('m', x.get(0, 0, 0));
        x.write(0, 9, 't');
        Check.refused(UnsupportedOperationException.class, x, () -> x.get(29, 0, 0));
        Check.refused(IllegalArgumentException.class, x, () -> x.get(0, 0, 61));
        Check.due(8, x.value());
        Check.sentence(4, "but not the last answer");
        x.crash();
        Check.refused(IllegalStateException.class, x, () -> x.get(0, 0, 0));
        Check.due(8, x.value());
        x.recover();
        Check.due(8, x.value());
    }

    private static void stalenessOfNoAnswer() {
        Check.sentence(5, "if the last get() gave none, or there was none");
        SlipstreamCache x = new SlipstreamCache();
        Check.refused(NoSuchElementException.class, x, () -> x.staleness());
        Check.load(x, 3);
        Check.refused(NoSuchElementException.class, x, () -> x.staleness());
        x.get(3, 0, 0);
        Check.due(0, x.staleness());
        x.get(4, 0, 0);
        Check.refused(NoSuchElementException.class, x, () -> x.staleness());
        x.get(4, 0, 0);
        Check.refused(NoSuchElementException.class, x, () -> x.staleness());
    }

    private static void stalenessOfThatTime() {
        Check.sentence(5, "Returns the minutes, as they were at that time.");
        SlipstreamCache x = new SlipstreamCache();
        Check.load(x, 3);
        x.write(3, 1, 'a');
        x.pass(4);
        x.get(3, 4, 0);
        Check.due(4, x.staleness());
        x.pass(7);
        x.write(3, 2, 't');
        x.drop(3);
        Check.due(4, x.staleness());
        x.crash();
        Check.due(4, x.staleness());
        x.recover();
        Check.due(4, x.staleness());
    }

    private static void leaseOfNone() {
        Check.sentence(6, "if none was");
        SlipstreamCache x = new SlipstreamCache();
        Check.refused(NoSuchElementException.class, x, () -> x.lease());
        x.write(3, 33, 'b');
        x.get(3, 0, 0);
        Check.refused(NoSuchElementException.class, x, () -> x.lease());
        x.get(4, 0, 0);
        Check.due(0, x.lease());
    }

    private static void leaseNumbers() {
        Check.sentence(6, "Returns the lease that was given last.");
        SlipstreamCache x = new SlipstreamCache();
        for (int key = 0; key < 32; key++) {
            x.get(key, 0, 0);
            Check.due(key, x.lease());
            x.get(0, 0, 0);
            Check.due(key, x.lease());
        }
        x.read(2);
        x.fill(2);
        x.crash();
        Check.due(31, x.lease());
        x.recover();
        x.get(0, 0, 0);
        Check.due(32, x.lease());
    }
}
