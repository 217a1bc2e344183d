/** The boundary cases of the memory, of its room and of what goes: promises 8, 10, 17 and 18. */
final class MemoryBoundaries {
    private MemoryBoundaries() {
    }

    static void run() {
        roomOfTwelve();
        roomForEachSize();
        noMoreGoThanAreNeeded();
        severalGo();
        leastWorthGoesFirst();
        usedLongestAgoGoesFirst();
        lowestKeyGoesFirst();
        sumThatIsNotLess();
        sumOfSeveral();
        notEnoughThatAreNotPromised();
        justEnoughThatAreNotPromised();
        mustComeWhateverTheWorths();
        mustComeAndCannot();
        worthWithRoom();
        ownEntryIsRoom();
        ownEntryDoesNotGoToTheFlash();
        promisedOwnEntryIsRoom();
        usedWhenItComes();
        usedByAnAnswer();
        usedByAWrite();
        usedOfNone();
    }

    private static void roomOfTwelve() {
        Check.sentence(18, "The memory has room for the size 12.");
        SlipstreamCache x = new SlipstreamCache();
        for (int key = 0; key < 12; key++) {
            Check.due('i', Check.load(x, key));
        }
        Check.due(12, x.used());
        Check.due('n', Check.load(x, 12));
        Check.due(12, x.used());
        x.drop(0);
        Check.due(11, x.used());
        Check.due('i', Check.load(x, 13));
        Check.due(12, x.used());
    }

    private static void roomForEachSize() {
        Check.sentence(18, "The memory has room for the size 12.");
        SlipstreamCache x = new SlipstreamCache();
        int[] sizes = {4, 4, 3, 2, 1};
        for (int key = 0; key < 5; key++) {
            x.setKey(key, sizes[key], 1, 0);
        }
        Check.due('i', Check.load(x, 0));
        Check.due('i', Check.load(x, 1));
        Check.due('i', Check.load(x, 2));
        Check.due(11, x.used());
        Check.due('n', Check.load(x, 3));
        Check.due(11, x.used());
        Check.due('i', Check.load(x, 4));
        Check.due(12, x.used());
        Check.due(true, x.isHonest());
    }

    private static void noMoreGoThanAreNeeded() {
        Check.sentence(8, "entries that are not promised go, as many as are needed");
        SlipstreamCache x = new SlipstreamCache();
        int[] sizes = {3, 3, 3, 3, 3};
        int[] times = {1, 1, 1, 1, 2};
        for (int key = 0; key < 5; key++) {
            x.setKey(key, sizes[key], 1, 0);
            Check.miss(x, key, times[key]);
            Check.readAndFill(x, key, 'i');
        }
        Check.due('-', x.where(0));
        Check.due('m', x.where(1));
        Check.due(12, x.used());
        // With the size 1, it makes one of the size 3 go.
        Check.miss(x, 9, 2);
        Check.readAndFill(x, 5, 'i');
        Check.due('-', x.where(1));
        Check.due('m', x.where(2));
        Check.due(10, x.used());
    }

    private static void severalGo() {
        Check.sentence(8, "entries that are not promised go, as many as are needed");
        SlipstreamCache x = new SlipstreamCache();
        for (int key = 0; key < 12; key++) {
            Check.load(x, key);
        }
        x.setKey(20, 4, 9, 0);
        Check.due('i', Check.load(x, 20));
        for (int key = 0; key < 12; key++) {
            Check.due(key < 4 ? '-' : 'm', x.where(key));
        }
        Check.due(12, x.used());
    }

    private static void leastWorthGoesFirst() {
        Check.sentence(8, "those with the least worth first");
        SlipstreamCache x = new SlipstreamCache();
        int[] costs = {4, 2, 3};
        for (int key = 0; key < 3; key++) {
            x.setKey(key, 4, costs[key], 0);
            Check.load(x, key);
        }
        // The estimate 2 makes the worth 4 of the key 1.
        x.get(1, 0, 0);
        x.setKey(9, 1, 5, 0);
        Check.due('i', Check.load(x, 9));
        Check.due('m', x.where(0));
        Check.due('m', x.where(1));
        Check.due('-', x.where(2));
    }

    private static void usedLongestAgoGoesFirst() {
        Check.sentence(8, "of several the one used longest ago");
        SlipstreamCache x = new SlipstreamCache();
        for (int key = 2; key >= 0; key--) {
            x.setKey(key, 4, 1, 0);
            Check.load(x, key);
            x.pass(1);
        }
        x.setKey(9, 4, 2, 0);
        Check.due('i', Check.load(x, 9));
        Check.due('-', x.where(2));
        x.setKey(10, 4, 2, 0);
        Check.due('i', Check.load(x, 10));
        Check.due('-', x.where(1));
        Check.due('m', x.where(0));
    }

    private static void lowestKeyGoesFirst() {
        Check.sentence(8, "of several the one with the lowest key");
        SlipstreamCache x = new SlipstreamCache();
        int[] keys = {0, 5, 31};
        for (int key : keys) {
            x.setKey(key, 4, 1, 0);
            Check.load(x, key);
        }
        for (int comer = 9; comer <= 11; comer++) {
            x.setKey(comer, 4, 2, 0);
            Check.due('i', Check.load(x, comer));
            Check.due('-', x.where(keys[comer - 9]));
        }
    }

    private static void sumThatIsNotLess() {
        Check.sentence(8, "if the sum of their worths is not less than the worth of what comes");
        SlipstreamCache x = new SlipstreamCache();
        for (int key = 0; key < 3; key++) {
            x.setKey(key, 4, 5, 0);
            Check.load(x, key);
        }
        int[] costs = {4, 5, 6};
        char[] answers = {'n', 'n', 'i'};
        for (int step = 0; step < 3; step++) {
            x.setKey(9 + step, 1, costs[step], 0);
            Check.due(answers[step], Check.load(x, 9 + step));
        }
        Check.due('-', x.where(0));
        Check.due('m', x.where(11));
        Check.due(9, x.used());
    }

    private static void sumOfSeveral() {
        Check.sentence(8, "if the sum of their worths is not less than the worth of what comes");
        SlipstreamCache x = new SlipstreamCache();
        int[] sizes = {2, 2, 4, 4};
        int[] costs = {2, 3, 9, 9};
        for (int key = 0; key < 4; key++) {
            x.setKey(key, sizes[key], costs[key], 0);
            Check.load(x, key);
        }
        x.setKey(9, 3, 5, 0);
        Check.due('n', Check.load(x, 9));
        Check.due('m', x.where(0));
        Check.due('m', x.where(1));
        x.setKey(10, 3, 6, 0);
        Check.due('i', Check.load(x, 10));
        Check.due('-', x.where(0));
        Check.due('-', x.where(1));
        Check.due(11, x.used());
    }

    /** The keys 0 and 1 of the size 4 are promised; 2, 3 and 4 have the sizes 1, 3 and 4, and 4 has the cost 9. */
    private static SlipstreamCache withEightPromised() {
        SlipstreamCache x = new SlipstreamCache();
        int[] sizes = {4, 4, 1, 3, 4};
        for (int key = 0; key < 5; key++) {
            x.setKey(key, sizes[key], key == 4 ? 9 : 1, 0);
        }
        x.write(0, 1, 'b');
        x.write(1, 1, 'b');
        return x;
    }

    private static void notEnoughThatAreNotPromised() {
        Check.sentence(8, "or they are not enough, nothing goes and it does not come");
        SlipstreamCache x = withEightPromised();
        x.write(2, 1, 'b');
        Check.due('i', Check.load(x, 3));
        Check.due('n', Check.load(x, 4));
        Check.due('m', x.where(3));
        Check.due(12, x.used());
    }

    private static void justEnoughThatAreNotPromised() {
        Check.sentence(8, "or they are not enough, nothing goes and it does not come");
        SlipstreamCache x = withEightPromised();
        Check.due('i', Check.load(x, 2));
        Check.due('i', Check.load(x, 3));
        Check.due('i', Check.load(x, 4));
        Check.due('-', x.where(2));
        Check.due('-', x.where(3));
        Check.due('p', x.where(0));
        Check.due(12, x.used());
    }

    private static void mustComeWhateverTheWorths() {
        Check.sentence(10, "What must come comes whatever the worths are, if those that are not promised are enough.");
        SlipstreamCache x = new SlipstreamCache();
        for (int key = 0; key < 3; key++) {
            x.setKey(key, 4, 9, 0);
            Check.load(x, key);
        }
        Check.due(0, x.write(20, 1, 'b'));
        Check.due(0, x.estimate(20));
        Check.due('p', x.where(20));
        Check.due('-', x.where(0));
        Check.due(9, x.used());
    }

    private static void mustComeAndCannot() {
        Check.sentence(10, "if it goes behind and cannot come to the memory, as too much is promised");
        SlipstreamCache x = new SlipstreamCache();
        int[] sizes = {4, 4, 3, 2, 1};
        for (int key = 0; key < 5; key++) {
            x.setKey(key, sizes[key], 1, 0);
        }
        for (int key = 0; key < 3; key++) {
            x.write(key, 1, 'b');
        }
        Check.refused(UnsupportedOperationException.class, x, () -> x.write(3, 1, 'b'));
        Check.due('i', Check.load(x, 4));
        Check.refused(UnsupportedOperationException.class, x, () -> x.write(3, 1, 'b'));
        Check.due('m', x.where(4));
        Check.due(0, x.write(4, 1, 'b'));
        Check.due(12, x.used());
        Check.due(4, x.pass(3));
        Check.due(0, x.write(3, 1, 'b'));
    }

    private static void worthWithRoom() {
        Check.sentence(3, "When an entry is to come and there is no room");
        SlipstreamCache x = Check.flashOf(1);
        x.crash();
        Check.due(1, x.recover());
        Check.push(x);
        Check.due('f', x.where(0));
        // With room it comes, though it has the worth 0.
        Check.due(0, x.estimate(0));
        Check.due('f', x.get(0, 0, 0));
        Check.due('m', x.where(0));
    }

    private static void ownEntryIsRoom() {
        Check.sentence(8, "An entry of the key itself that is there counts as room, and goes when the other one comes");
        SlipstreamCache x = Check.withFlash();
        x.write(1, 91, 'a');
        x.pass(1);
        Check.due('l', x.get(1, 0, 0));
        // The others have worths that it would not be enough against.
        x.write(2, 1, 'b');
        x.write(3, 1, 'b');
        Check.readAndFill(x, 4, 'i');
        Check.due(12, x.used());
        Check.due(2, x.versionOf(1));
        Check.due('p', x.where(2));
    }

    private static void ownEntryDoesNotGoToTheFlash() {
        Check.sentence(8, "and goes when the other one comes, and not to the flash");
        SlipstreamCache x = Check.withFlash();
        x.pass(1);
        Check.due('l', x.get(3, 0, 0));
        Check.due(5, x.estimate(3));
        Check.readAndFill(x, 4, 'i');
        Check.slots(x, 0, 0, -1, -1, -1);
        x.write(3, 1, 'b');
        Check.slots(x, 0, 0, -1, -1, -1);
        Check.due('p', x.where(3));
    }

    private static void promisedOwnEntryIsRoom() {
        Check.sentence(10, "the value must come to the memory, in place of an entry of the key");
        SlipstreamCache x = Check.withFlash();
        for (int key = 1; key <= 3; key++) {
            x.write(key, 1, 'b');
        }
        Check.refused(UnsupportedOperationException.class, x, () -> x.write(0, 1, 'b'));
        for (int key = 1; key <= 3; key++) {
            Check.due(1, x.write(key, 100 + key, 'b'));
        }
        Check.due(12, x.used());
        Check.due(3, x.promises());
        Check.due('m', x.get(3, 0, 0));
        Check.due(103, x.value());
    }

    /** The keys 0, 1 and 2 have the size 4, the cost 1 and the estimate 1, and were used in the minutes 0, 1 and 2. */
    private static SlipstreamCache threeOfOneWorth() {
        SlipstreamCache x = new SlipstreamCache();
        for (int key = 0; key < 3; key++) {
            x.setKey(key, 4, 1, 0);
            Check.load(x, key);
            x.pass(1);
        }
        x.setKey(9, 4, 9, 0);
        return x;
    }

    private static void usedWhenItComes() {
        Check.sentence(8, "An entry is used when it comes");
        SlipstreamCache x = threeOfOneWorth();
        // Each estimate is 2 then.
        Check.due('m', x.get(2, 3, 0));
        x.pass(1);
        Check.due('m', x.get(1, 3, 0));
        x.pass(1);
        Check.due('l', x.get(0, 3, 0));
        Check.readAndFill(x, 3, 'i');
        x.pass(1);
        Check.due('i', Check.load(x, 9));
        Check.due('f', x.where(2));
        Check.due('m', x.where(1));
        Check.due('m', x.where(0));
    }

    private static void usedByAnAnswer() {
        Check.sentence(8, "An entry is used when it comes, by an answer, and by a write.");
        SlipstreamCache x = threeOfOneWorth();
        for (int key : new int[] {1, 2, 0}) {
            Check.due('m', x.get(key, 60, 0));
            x.pass(1);
        }
        Check.due('i', Check.load(x, 9));
        Check.due('f', x.where(1));
        Check.due('m', x.where(0));
        Check.due('m', x.where(2));
    }

    private static void usedByAWrite() {
        Check.sentence(10, "An entry is used when it comes, by an answer, and by a write.");
        SlipstreamCache x = threeOfOneWorth();
        x.write(0, 1, 't');
        x.pass(1);
        Check.due('i', Check.load(x, 9));
        Check.due('m', x.where(0));
        Check.due('-', x.where(1));
        Check.sentence(10, "Around the cache, only the store is written.");
        SlipstreamCache y = threeOfOneWorth();
        y.write(0, 1, 'a');
        y.pass(1);
        Check.due('i', Check.load(y, 9));
        Check.due('-', y.where(0));
        SlipstreamCache z = threeOfOneWorth();
        z.write(0, 1, 'b');
        Check.due(1, z.pass(3));
        Check.due('i', Check.load(z, 9));
        Check.due('m', z.where(0));
        Check.due('-', z.where(1));
    }

    private static void usedOfNone() {
        Check.sentence(18, "Returns the sum of the sizes.");
        SlipstreamCache x = new SlipstreamCache();
        Check.due(0, x.used());
        x.setKey(0, 4, 1, 0);
        x.write(0, 1, 'b');
        Check.due(4, x.used());
        x.write(0, 2, 'b');
        Check.due(4, x.used());
        x.write(0, 2, 't');
        Check.due(4, x.used());
        x.drop(0);
        Check.due(0, x.used());
        x.drop(0);
        Check.due(0, x.used());
        SlipstreamCache y = Check.withFlash();
        Check.due(12, y.used());
        y.crash();
        Check.due(0, y.used());
        y.recover();
        Check.due(4, y.used());
    }
}
