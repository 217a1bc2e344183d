import java.util.NoSuchElementException;

/** The boundary cases of what can be looked at, of the mirror and of the sums: promises 16, 19 and 23 to 32. */
final class LookBoundaries {
    private static final int[] OUTSIDE = {-1, 32, 100, Integer.MIN_VALUE, Integer.MAX_VALUE};

    private LookBoundaries() {
    }

    static void run() {
        minuteOfRefusedPasses();
        keysOfEstimate();
        keysOfStored();
        keysOfMirrored();
        promisesThatWait();
        nextOfNone();
        nextWhileDown();
        messagesOfWrites();
        messagesOutside();
        messagesMoveUp();
        greaterVersionAlone();
        messagesPassOneAnother();
        costsOfThen();
        paidByRefusedLeases();
        shareOfNone();
        shareOfAll();
        meanOfNone();
        meanOfAnswers();
        staleBySameVersion();
        staleByTheVersionBehind();
        staleIsNotAge();
        staleWithAFullLog();
        honestAtTheBound();
        honestAlways();
    }

    private static void minuteOfRefusedPasses() {
        Check.sentence(16, "Returns the minute.");
        SlipstreamCache x = new SlipstreamCache();
        Check.due(0, x.minute());
        x.pass(60);
        Check.refused(IllegalArgumentException.class, x, () -> x.pass(61));
        Check.refused(IllegalArgumentException.class, x, () -> x.pass(0));
        Check.due(60, x.minute());
        x.crash();
        Check.due(60, x.minute());
        x.recover();
        Check.due(60, x.minute());
    }

    private static void keysOfEstimate() {
        Check.sentence(19, "if there is no such key");
        SlipstreamCache x = new SlipstreamCache();
        for (int key : OUTSIDE) {
            Check.refused(IndexOutOfBoundsException.class, x, () -> x.estimate(key));
        }
        Check.due(0, x.estimate(0));
        Check.due(0, x.estimate(31));
    }

    private static void keysOfStored() {
        Check.sentence(23, "if there is no such key");
        SlipstreamCache x = new SlipstreamCache();
        for (int key : OUTSIDE) {
            Check.refused(IndexOutOfBoundsException.class, x, () -> x.stored(key));
        }
        Check.due(0, x.stored(0));
        Check.due(0, x.stored(31));
    }

    private static void keysOfMirrored() {
        Check.sentence(28, "if there is no such key");
        SlipstreamCache x = new SlipstreamCache();
        for (int key : OUTSIDE) {
            Check.refused(IndexOutOfBoundsException.class, x, () -> x.mirrored(key));
        }
        Check.sentence(28, "The mirror has a value and a version for each key, 0 at first.");
        for (int key = 0; key < 32; key++) {
            Check.due(0, x.mirrored(key));
        }
    }

    private static void promisesThatWait() {
        Check.sentence(24, "Returns the number of promises that wait.");
        SlipstreamCache x = new SlipstreamCache();
        Check.due(0, x.promises());
        for (int key = 0; key < 12; key++) {
            x.write(key, 1, 'b');
            x.write(key, 2, 'b');
            Check.due(key + 1, x.promises());
        }
        Check.refused(UnsupportedOperationException.class, x, () -> x.write(12, 1, 'b'));
        Check.due(12, x.promises());
        x.write(0, 1, 'a');
        Check.due(12, x.promises());
        x.write(0, 1, 't');
        x.drop(1);
        Check.due(10, x.promises());
        x.crash();
        Check.due(10, x.promises());
        x.recover();
        Check.due(0, x.promises());
    }

    private static void nextOfNone() {
        Check.sentence(25, "if none waits");
        SlipstreamCache x = new SlipstreamCache();
        Check.refused(NoSuchElementException.class, x, () -> x.nextPromise());
        x.write(31, 1, 'b');
        Check.due(31, x.nextPromise());
        x.pass(3);
        Check.refused(NoSuchElementException.class, x, () -> x.nextPromise());
        x.write(0, 1, 'b');
        Check.due(0, x.nextPromise());
        x.write(0, 1, 't');
        Check.refused(NoSuchElementException.class, x, () -> x.nextPromise());
    }

    private static void nextWhileDown() {
        Check.sentence(25, "Returns the key of the promise whose turn is next.");
        SlipstreamCache x = new SlipstreamCache();
        x.write(3, 1, 'b');
        x.write(2, 1, 'b');
        x.crash();
        x.pass(10);
        Check.due(2, x.nextPromise());
        x.recover();
        Check.refused(NoSuchElementException.class, x, () -> x.nextPromise());
    }

    private static void messagesOfWrites() {
        Check.sentence(26, "Each write of the store sends a message with the key, the version and the value");
        SlipstreamCache x = new SlipstreamCache();
        Check.due(0, x.messages());
        x.write(3, 1, 't');
        Check.due(1, x.messages());
        x.write(3, 1, 'a');
        Check.due(2, x.messages());
        x.write(3, 1, 'b');
        Check.due(2, x.messages());
        x.write(3, 2, 'b');
        x.drop(3);
        Check.due(3, x.messages());
        Check.refused(IllegalArgumentException.class, x, () -> x.write(3, 1, 'x'));
        Check.due(3, x.messages());
        for (int left = 2; left >= 0; left--) {
            x.deliver(left);
            Check.due(left, x.messages());
        }
    }

    private static void messagesOutside() {
        Check.sentence(27, "if there is no such message");
        SlipstreamCache x = new SlipstreamCache();
        Check.refused(IndexOutOfBoundsException.class, x, () -> x.deliver(0));
        x.write(3, 1, 'a');
        x.write(3, 2, 'a');
        for (int index : new int[] {-1, 2, 3, 399, 400, Integer.MIN_VALUE, Integer.MAX_VALUE}) {
            Check.refused(IndexOutOfBoundsException.class, x, () -> x.deliver(index));
        }
        Check.due(true, x.deliver(1));
        Check.refused(IndexOutOfBoundsException.class, x, () -> x.deliver(1));
        Check.due(false, x.deliver(0));
        Check.refused(IndexOutOfBoundsException.class, x, () -> x.deliver(0));
    }

    private static void messagesMoveUp() {
        Check.sentence(27, "the index among those under way, from 0");
        SlipstreamCache x = new SlipstreamCache();
        for (int key = 0; key < 5; key++) {
            x.write(key, key + 10, 'a');
        }
        int[] indices = {4, 1, 0, 1, 0};
        int[] keys = {4, 1, 0, 3, 2};
        for (int step = 0; step < 5; step++) {
            Check.due(0, x.mirrored(keys[step]));
            Check.due(true, x.deliver(indices[step]));
            Check.due(keys[step] + 10, x.mirrored(keys[step]));
        }
        x.write(9, 90, 'a');
        Check.due(true, x.deliver(0));
        Check.due(90, x.mirrored(9));
    }

    private static void greaterVersionAlone() {
        Check.sentence(27, "the mirror takes it if its version is greater than the one it has");
        SlipstreamCache x = new SlipstreamCache();
        for (int version = 1; version <= 4; version++) {
            x.write(7, version * 10, 'a');
        }
        Check.due(true, x.deliver(1));
        Check.due(20, x.mirrored(7));
        Check.due(true, x.deliver(1));
        Check.due(30, x.mirrored(7));
        Check.due(false, x.deliver(0));
        Check.due(30, x.mirrored(7));
        Check.due(true, x.deliver(0));
        Check.due(40, x.mirrored(7));
    }

    private static void messagesPassOneAnother() {
        Check.sentence(28, "Returns the value of the mirror.");
        SlipstreamCache x = new SlipstreamCache();
        x.write(7, Integer.MAX_VALUE, 'a');
        x.write(8, 5, 'a');
        x.write(7, Integer.MIN_VALUE, 'a');
        Check.due(true, x.deliver(2));
        Check.due(Integer.MIN_VALUE, x.mirrored(7));
        Check.due(0, x.mirrored(8));
        Check.due(false, x.deliver(0));
        Check.due(Integer.MIN_VALUE, x.mirrored(7));
        x.crash();
        Check.due(true, x.deliver(0));
        Check.due(5, x.mirrored(8));
    }

    private static void costsOfThen() {
        Check.sentence(29, "Returns the sum of the costs of all leases that were given, by the costs of then.");
        SlipstreamCache x = new SlipstreamCache();
        Check.due(0L, x.paid());
        x.setKey(3, 1, 9, 0);
        x.get(3, 0, 0);
        x.get(3, 0, 0);
        Check.due(9L, x.paid());
        x.drop(3);
        x.setKey(3, 1, 1, 0);
        Check.due(9L, x.paid());
        x.get(3, 0, 0);
        Check.due(10L, x.paid());
        x.crash();
        Check.due(10L, x.paid());
    }

    private static void paidByRefusedLeases() {
        Check.sentence(29, "A method that throws an exception changes nothing.");
        SlipstreamCache x = AnswerBoundaries.withAllLeases();
        Check.due(60L, x.paid());
        Check.refused(UnsupportedOperationException.class, x, () -> x.get(30, 0, 0));
        Check.due(60L, x.paid());
    }

    private static void shareOfNone() {
        Check.sentence(30, "if there were none");
        SlipstreamCache x = new SlipstreamCache();
        Check.refused(ArithmeticException.class, x, () -> x.answeredShare());
        Check.refused(IllegalArgumentException.class, x, () -> x.get(3, 61, 0));
        Check.refused(ArithmeticException.class, x, () -> x.answeredShare());
        x.get(3, 0, 0);
        Check.due(0.0f, x.answeredShare());
    }

    private static void shareOfAll() {
        Check.sentence(30, "Returns their number divided by that of all get(), both converted to float.");
        SlipstreamCache x = new SlipstreamCache();
        x.write(3, 1, 'b');
        x.get(3, 0, 0);
        Check.due(1.0f, x.answeredShare());
        x.get(4, 0, 0);
        x.get(4, 0, 0);
        Check.due(1.0f / 3.0f, x.answeredShare());
        x.pass(4);
        x.get(3, 0, 0);
        Check.due('s', x.get(3, 0, 1));
        Check.due(2.0f / 5.0f, x.answeredShare());
        x.crash();
        Check.refused(IllegalStateException.class, x, () -> x.get(3, 0, 0));
        Check.due(2.0f / 5.0f, x.answeredShare());
    }

    private static void meanOfNone() {
        Check.sentence(31, "if there were none");
        SlipstreamCache x = new SlipstreamCache();
        Check.refused(ArithmeticException.class, x, () -> x.meanStaleness());
        x.get(3, 0, 0);
        x.get(3, 0, 0);
        Check.refused(ArithmeticException.class, x, () -> x.meanStaleness());
        Check.readAndFill(x, 0, 'i');
        x.get(3, 0, 0);
        Check.due(0.0, x.meanStaleness());
    }

    private static void meanOfAnswers() {
        Check.sentence(31, "Returns the sum of their minutes divided by their number, both converted to double.");
        SlipstreamCache x = new SlipstreamCache();
        Check.load(x, 3);
        x.write(3, 1, 'a');
        x.get(3, 0, 0);
        x.get(3, 0, 0);
        x.pass(1);
        Check.due('m', x.get(3, 1, 0));
        Check.due(1.0 / 3.0, x.meanStaleness());
        Check.due('l', x.get(3, 0, 0));
        Check.due(1.0 / 3.0, x.meanStaleness());
        Check.due('s', x.get(3, 0, 1));
        Check.due(2.0 / 4.0, x.meanStaleness());
    }

    private static void staleBySameVersion() {
        Check.sentence(5, "An answer is stale by 0 minutes if it is promised, or its version is that of the store");
        SlipstreamCache x = new SlipstreamCache();
        Check.load(x, 3);
        x.pass(60);
        Check.due('m', x.get(3, 60, 0));
        Check.due(0, x.staleness());
        x.write(4, 1, 'b');
        x.write(4, 2, 'a');
        x.write(4, 3, 'a');
        x.pass(2);
        Check.due('m', x.get(4, 0, 0));
        Check.due(0, x.staleness());
    }

    private static void staleByTheVersionBehind() {
        Check.sentence(5, "and else by the minutes since the version behind its own was written");
        SlipstreamCache x = new SlipstreamCache();
        Check.load(x, 3);
        x.pass(10);
        x.write(3, 1, 'a');
        Check.due('m', x.get(3, 60, 0));
        Check.due(0, x.staleness());
        x.pass(10);
        x.write(3, 2, 'a');
        x.write(19, 2, 'a');
        x.pass(10);
        // The first write behind its reading counts, not the last one.
        Check.due('m', x.get(3, 60, 0));
        Check.due(20, x.staleness());
    }

    private static void staleIsNotAge() {
        Check.sentence(5, "Returns by how many minutes the last answer was stale, found from the log.");
        SlipstreamCache x = Check.withFlash();
        x.pass(30);
        x.write(0, 9, 'a');
        x.write(1, 9, 'a');
        x.pass(2);
        Check.due('f', x.get(0, 60, 0));
        Check.due(2, x.staleness());
        Check.due('l', x.get(1, 31, 0));
        Check.due('s', x.get(1, 31, 1));
        Check.due(2, x.staleness());
    }

    private static void staleWithAFullLog() {
        Check.sentence(5, "Returns by how many minutes the last answer was stale, found from the log.");
        SlipstreamCache x = new SlipstreamCache();
        Check.load(x, 3);
        Check.load(x, 4);
        for (int write = 1; write <= 399; write++) {
            x.write(9, write, 'a');
        }
        x.pass(1);
        x.write(3, 1, 'a');
        x.pass(1);
        Check.refused(IllegalStateException.class, x, () -> x.write(3, 2, 'a'));
        Check.due('m', x.get(3, 2, 0));
        Check.due(1, x.staleness());
        Check.due('m', x.get(4, 2, 0));
        Check.due(0, x.staleness());
    }

    private static void honestAtTheBound() {
        Check.sentence(32, "Checks that no answer was staler than its bound, with the grace for 's'");
        SlipstreamCache x = Check.withFlash();
        x.write(0, 9, 'a');
        x.write(1, 9, 'a');
        Check.due('m', x.get(1, 0, 0));
        Check.due(true, x.isHonest());
        x.pass(60);
        Check.due('m', x.get(1, 60, 0));
        Check.due('f', x.get(0, 60, 0));
        Check.due(60, x.staleness());
        Check.due(true, x.isHonest());
        x.pass(60);
        Check.due('l', x.get(1, 60, 60));
        Check.due('s', x.get(1, 60, 60));
        Check.due(120, x.staleness());
        Check.due(true, x.isHonest());
    }

    private static void honestAlways() {
        Check.sentence(32, "that what is used is the sum of the sizes and fits, and that each promise is in the memory, unless"
                + " the cache is down");
        SlipstreamCache x = new SlipstreamCache();
        Check.due(true, x.isHonest());
        for (int key = 0; key < 12; key++) {
            x.write(key, 1, 'b');
        }
        Check.due(12, x.used());
        Check.due(true, x.isHonest());
        x.crash();
        Check.due(true, x.isHonest());
        x.recover();
        Check.due(true, x.isHonest());
        SlipstreamCache y = Check.flashOf(5);
        y.crash();
        Check.due(true, y.isHonest());
        y.recover();
        Check.due(12, y.used());
        Check.due(true, y.isHonest());
    }
}
