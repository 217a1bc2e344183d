import java.util.NoSuchElementException;

/**
 * A cache before a store: a small memory kept by worth, a flash of segments behind it,
 * leases for who misses, promised writes, groups, crashes and a mirror.
 */
public final class SlipstreamCache {
    private static final int KEYS = 32;
    private static final int GROUPS = 4;
    private static final int MOST_SIZE = 4;
    private static final int MOST_COST = 9;

    private static final int ROWS = 4;
    private static final int COLUMNS = 16;
    private static final int[] ROW_FACTORS = {5, 7, 11, 13};
    private static final int ROW_SHIFT = 3;
    private static final int MOST_COUNT = 15;
    private static final int COUNTS_TO_HALVE = 64;

    private static final int ROOM = 12;
    private static final int SEGMENTS = 4;
    private static final int SEGMENT_SLOTS = 4;
    private static final int SLOTS = SEGMENTS * SEGMENT_SLOTS;
    private static final int LEAST_FLASH_ESTIMATE = 2;
    private static final int MARK = 100;
    private static final int NONE = -1;

    private static final int MOST_WAIT = 60;
    private static final int MOST_LEASES = 60;
    private static final int LEASE_MINUTES = 5;
    private static final int PROMISE_MINUTES = 3;
    private static final int MOST_WRITES = 400;
    private static final int MOST_PASS = 60;
    private static final int LAST_MINUTE = 5000;
    private static final int LATEST_DUE = LAST_MINUTE + PROMISE_MINUTES;

    private static final char IN_MEMORY = 'm';
    private static final char IN_FLASH = 'f';
    private static final char PROMISED = 'p';
    private static final char NOWHERE = '-';
    private static final char STALE = 's';
    private static final char WAIT = 'w';
    private static final char LEASE = 'l';
    private static final char OUT = 'o';
    private static final char READ = 'r';
    private static final char FILLED = 'f';
    private static final char VOID = 'x';
    private static final char CAME = 'i';
    private static final char NO_ROOM = 'n';
    private static final char THROUGH = 't';
    private static final char BEHIND = 'b';
    private static final char AROUND = 'a';

    private final Keys keys = new Keys();
    private final Store store = new Store();
    private final Mirror mirror = new Mirror();
    private final Sketch sketch = new Sketch();
    private final Memory memory = new Memory();
    private final Flash flash = new Flash();
    private final Pledges pledges = new Pledges();
    private final Leases leases = new Leases();
    private final Answers answers = new Answers();
    private final Choice choice = new Choice();
    // What comes is kept apart from the flash: room made for it may begin its own segment anew.
    private final Copies incoming = new Copies(1);
    private int now = 0;
    private boolean down = false;

    public SlipstreamCache() {
    }

    // ---- keys and answers

    public int setKey(int key, int size, int cost, int group)
            throws IndexOutOfBoundsException, IllegalArgumentException, IllegalStateException {
        requireKey(key);
        requireWithin(size, 1, MOST_SIZE);
        requireWithin(cost, 1, MOST_COST);
        requireWithin(group, 0, GROUPS - 1);
        requireUp();
        if (isKept(key) || leases.isOutFor(key, now)) {
            throw new IllegalStateException("the key is in use");
        }
        int before = keys.groups[key];
        keys.sizes[key] = size;
        keys.costs[key] = cost;
        keys.groups[key] = group;
        return before;
    }

    public char get(int key, int bound, int grace)
            throws IndexOutOfBoundsException, IllegalArgumentException, IllegalStateException,
            UnsupportedOperationException {
        requireKey(key);
        requireWithin(bound, 0, MOST_WAIT);
        requireWithin(grace, 0, MOST_WAIT);
        requireUp();
        int allowed = bound;
        char source = goodSource(key, allowed);
        char told = source;
        if (source == NOWHERE && leases.isOutFor(key, now)) {
            allowed = bound + grace;
            source = goodSource(key, allowed);
            told = source == NOWHERE ? WAIT : STALE;
        } else if (source == NOWHERE) {
            told = LEASE;
        }
        if (told == LEASE && leases.count >= MOST_LEASES) {
            throw new UnsupportedOperationException("all leases were given");
        }
        if (told == LEASE) {
            leases.give(key, now, keys.costs[key]);
        }
        answer(key, source, allowed);
        sketch.count(key);
        return told;
    }

    public int value() throws NoSuchElementException {
        requireAnswer();
        return answers.lastValue;
    }

    public int staleness() throws NoSuchElementException {
        requireAnswer();
        return answers.lastStaleness;
    }

    public int lease() throws NoSuchElementException {
        if (leases.count == 0) {
            throw new NoSuchElementException("no lease was given");
        }
        return leases.count - 1;
    }

    public int read(int lease) throws IndexOutOfBoundsException, IllegalStateException {
        requireLease(lease);
        if (leases.stateOf(lease, now) != OUT) {
            throw new IllegalStateException("the lease is not out, or was read");
        }
        int key = leases.keyOf[lease];
        int value = store.values[key];
        leases.wasRead[lease] = true;
        leases.copies.put(lease, value, store.versions[key], now, keys.numberFor(key));
        return value;
    }

    public char fill(int lease) throws IndexOutOfBoundsException, IllegalStateException {
        requireLease(lease);
        char state = leases.stateOf(lease, now);
        if (state == FILLED || !leases.wasRead[lease]) {
            throw new IllegalStateException("the lease was filled, or was not read");
        }
        if (state == VOID) {
            return VOID;
        }
        leases.ends[lease] = FILLED;
        incoming.take(0, leases.copies, lease);
        return comeIfWorthIt(leases.keyOf[lease]) ? CAME : NO_ROOM;
    }

    public char leaseState(int lease) throws IndexOutOfBoundsException {
        requireLease(lease);
        return leases.stateOf(lease, now);
    }

    // ---- writes, groups, minutes

    public int write(int key, int value, char way)
            throws IndexOutOfBoundsException, IllegalArgumentException, IllegalStateException,
            UnsupportedOperationException {
        requireKey(key);
        if (way != THROUGH && way != BEHIND && way != AROUND) {
            throw new IllegalArgumentException("no such way");
        }
        if (way != AROUND) {
            requireUp();
        }
        if (store.logged + pledges.count >= MOST_WRITES) {
            throw new IllegalStateException("too many writes");
        }
        if (way == BEHIND && !chooseLeavers(key)) {
            throw new UnsupportedOperationException("too much is promised");
        }
        if (way == THROUGH) {
            writeThrough(key, value);
        } else if (way == BEHIND) {
            writeBehind(key, value);
        } else {
            writeStore(key, value);
        }
        return store.versions[key];
    }

    public boolean drop(int key) throws IndexOutOfBoundsException, IllegalStateException {
        requireKey(key);
        requireUp();
        boolean wasKept = isKept(key);
        if (pledges.waiting[key]) {
            keepPromise(key);
        }
        memory.remove(key, keys.sizes[key]);
        flash.takeOut(key);
        leases.voidFor(key);
        return wasKept;
    }

    public int bump(int group) throws IndexOutOfBoundsException, IllegalStateException {
        if (group < 0 || group >= GROUPS) {
            throw new IndexOutOfBoundsException("no such group");
        }
        requireUp();
        keepPromises(LATEST_DUE, group);
        for (int key = 0; key < KEYS; key++) {
            if (keys.groups[key] == group) {
                leases.voidFor(key);
            }
        }
        keys.numbers[group]++;
        return keys.numbers[group];
    }

    public int pass(int minutes) throws IllegalArgumentException, IllegalStateException {
        requireWithin(minutes, 1, MOST_PASS);
        if (now + minutes > LAST_MINUTE) {
            throw new IllegalStateException("the minutes are at their end");
        }
        int written = 0;
        for (int passed = 0; passed < minutes; passed++) {
            now++;
            if (!down) {
                written += keepPromises(now, NONE);
            }
        }
        return written;
    }

    public int crash() throws IllegalStateException {
        requireUp();
        int lost = memory.entries();
        memory.clear();
        sketch.clear();
        leases.voidAll();
        flash.loseIndex();
        down = true;
        return lost;
    }

    public int recover() throws IllegalStateException {
        if (!down) {
            throw new IllegalStateException("the cache is not down");
        }
        keepPromises(LATEST_DUE, NONE);
        flash.readAgain(keys);
        comeAgain();
        down = false;
        return flash.indexed();
    }

    // ---- looking

    public int minute() {
        return now;
    }

    public char where(int key) throws IndexOutOfBoundsException {
        requireKey(key);
        if (memory.present[key]) {
            return pledges.waiting[key] ? PROMISED : IN_MEMORY;
        }
        return flash.index[key] == NONE ? NOWHERE : IN_FLASH;
    }

    public int used() {
        return memory.filled;
    }

    public int estimate(int key) throws IndexOutOfBoundsException {
        requireKey(key);
        return sketch.leastOf(key);
    }

    public int versionOf(int key) throws IndexOutOfBoundsException, NoSuchElementException {
        requireKey(key);
        if (!isKept(key)) {
            throw new NoSuchElementException("the key is in neither memory nor flash");
        }
        return memory.present[key] ? memory.copies.versions[key] : flash.copies.versions[flash.index[key]];
    }

    public int slot(int segment, int slot) throws IndexOutOfBoundsException {
        requireSegment(segment);
        if (slot < 0 || slot >= SEGMENT_SLOTS) {
            throw new IndexOutOfBoundsException("no such slot");
        }
        return flash.signs[segment * SEGMENT_SLOTS + slot];
    }

    public int wear(int segment) throws IndexOutOfBoundsException {
        requireSegment(segment);
        return flash.wears[segment];
    }

    public int stored(int key) throws IndexOutOfBoundsException {
        requireKey(key);
        return store.values[key];
    }

    public int promises() {
        return pledges.count;
    }

    public int nextPromise() throws NoSuchElementException {
        int next = pledges.nextOf(keys, NONE);
        if (next == NONE) {
            throw new NoSuchElementException("no promise waits");
        }
        return next;
    }

    public int messages() {
        return mirror.count;
    }

    public boolean deliver(int index) throws IndexOutOfBoundsException {
        if (index < 0 || index >= mirror.count) {
            throw new IndexOutOfBoundsException("no such message");
        }
        return mirror.receive(index);
    }

    public int mirrored(int key) throws IndexOutOfBoundsException {
        requireKey(key);
        return mirror.values[key];
    }

    public long paid() {
        return leases.costs;
    }

    public float answeredShare() throws ArithmeticException {
        if (answers.asked == 0) {
            throw new ArithmeticException("nothing was asked");
        }
        return (float) answers.answered / (float) answers.asked;
    }

    public double meanStaleness() throws ArithmeticException {
        if (answers.answered == 0) {
            throw new ArithmeticException("nothing was answered");
        }
        return (double) answers.staleMinutes / (double) answers.answered;
    }

    public boolean isHonest() {
        int sum = 0;
        boolean promisesAreThere = true;
        for (int key = 0; key < KEYS; key++) {
            if (memory.present[key]) {
                sum += keys.sizes[key];
            } else if (pledges.waiting[key] && !down) {
                promisesAreThere = false;
            }
        }
        return !answers.tooStale && memory.filled == sum && sum <= ROOM && promisesAreThere;
    }

    // ---- what calls ask for

    private static void requireKey(int key) {
        if (key < 0 || key >= KEYS) {
            throw new IndexOutOfBoundsException("no such key");
        }
    }

    private static void requireSegment(int segment) {
        if (segment < 0 || segment >= SEGMENTS) {
            throw new IndexOutOfBoundsException("no such segment");
        }
    }

    private static void requireWithin(int number, int least, int most) {
        if (number < least || number > most) {
            throw new IllegalArgumentException("a number is out of range");
        }
    }

    private void requireLease(int lease) {
        if (lease < 0 || lease >= leases.count) {
            throw new IndexOutOfBoundsException("no such lease");
        }
    }

    private void requireUp() {
        if (down) {
            throw new IllegalStateException("the cache is down");
        }
    }

    private void requireAnswer() {
        if (!answers.hasLast) {
            throw new NoSuchElementException("there is no last answer");
        }
    }

    // ---- answering

    private boolean isKept(int key) {
        return memory.present[key] || flash.index[key] != NONE;
    }

    /** Where the entry is that is good with the bound: in the memory, in the flash, or nowhere. */
    private char goodSource(int key, int bound) {
        if (memory.present[key] && (pledges.waiting[key] || isFresh(memory.copies, key, key, bound))) {
            return IN_MEMORY;
        }
        int at = flash.index[key];
        return at != NONE && isFresh(flash.copies, at, key, bound) ? IN_FLASH : NOWHERE;
    }

    private boolean isFresh(Copies copies, int row, int key, int bound) {
        return copies.numbers[row] == keys.numberFor(key) && now - copies.minutes[row] <= bound;
    }

    private void answer(int key, char source, int allowed) {
        if (source == IN_MEMORY) {
            int stale = pledges.waiting[key] ? 0 : store.staleBy(key, memory.copies.versions[key], now);
            answers.tell(memory.copies.values[key], stale, allowed);
            memory.touch(key);
        } else if (source == IN_FLASH) {
            incoming.take(0, flash.copies, flash.index[key]);
            answers.tell(incoming.values[0], store.staleBy(key, incoming.versions[0], now), allowed);
            if (comeIfWorthIt(key)) {
                flash.takeOut(key);
            }
        } else {
            answers.tellNothing();
        }
    }

    // ---- coming and going

    private int worth(int key) {
        return sketch.leastOf(key) * keys.costs[key];
    }

    /** Chooses, in their order, those that must go for the key; false if they are not enough. */
    private boolean chooseLeavers(int key) {
        choice.clear();
        // An entry of the key itself has the same size, so that nothing is lacking beside it.
        int lacking = memory.present[key] ? 0 : memory.filled + keys.sizes[key] - ROOM;
        for (int other = 0; other < KEYS && lacking > 0; other++) {
            choice.worths[other] = worth(other);
        }
        for (int tries = 0; tries < KEYS && lacking > 0; tries++) {
            int leaver = nextLeaver();
            if (leaver == NONE) {
                return false;
            }
            choice.add(leaver);
            lacking -= keys.sizes[leaver];
        }
        return lacking <= 0;
    }

    private int nextLeaver() {
        int best = NONE;
        for (int key = 0; key < KEYS; key++) {
            boolean mayGo = memory.present[key] && !pledges.waiting[key] && !choice.chosen[key];
            if (mayGo && (best == NONE || leavesBefore(key, best))) {
                best = key;
            }
        }
        return best;
    }

    private boolean leavesBefore(int key, int other) {
        int difference = choice.worths[key] - choice.worths[other];
        return difference < 0 || difference == 0 && memory.usedAt[key] < memory.usedAt[other];
    }

    private boolean comeIfWorthIt(int key) {
        if (!chooseLeavers(key) || choice.count > 0 && choice.sum >= worth(key)) {
            return false;
        }
        come(key);
        return true;
    }

    /** Brings what is incoming, when the leavers are chosen. */
    private void come(int key) {
        for (int place = 0; place < choice.count; place++) {
            int leaver = choice.order[place];
            if (sketch.leastOf(leaver) >= LEAST_FLASH_ESTIMATE) {
                flash.append(leaver, memory.copies);
            }
            memory.remove(leaver, keys.sizes[leaver]);
        }
        memory.put(key, keys.sizes[key], incoming);
    }

    private void comeAgain() {
        choice.clear();
        for (int tries = 0; tries < KEYS; tries++) {
            int key = nextToComeAgain();
            if (key == NONE) {
                return;
            }
            choice.chosen[key] = true;
            if (memory.filled + keys.sizes[key] <= ROOM) {
                incoming.take(0, flash.copies, flash.index[key]);
                memory.put(key, keys.sizes[key], incoming);
            }
        }
    }

    private int nextToComeAgain() {
        int best = NONE;
        for (int key = 0; key < KEYS; key++) {
            boolean waits = flash.index[key] != NONE && !choice.chosen[key];
            if (waits && (best == NONE || comesAgainBefore(key, best))) {
                best = key;
            }
        }
        return best;
    }

    private boolean comesAgainBefore(int key, int other) {
        int difference = keys.costs[key] - keys.costs[other];
        return difference > 0 || difference == 0
                && flash.copies.minutes[flash.index[key]] > flash.copies.minutes[flash.index[other]];
    }

    // ---- writing

    private int writeStore(int key, int value) {
        int version = store.put(key, value, now);
        mirror.send(key, version, value);
        return version;
    }

    private void writeThrough(int key, int value) {
        int version = writeStore(key, value);
        pledges.remove(key);
        if (memory.present[key]) {
            memory.copies.put(key, value, version, now, keys.numberFor(key));
            memory.touch(key);
        }
        flash.takeOut(key);
        leases.voidFor(key);
    }

    private void writeBehind(int key, int value) {
        incoming.put(0, value, store.versions[key] + 1, now, keys.numberFor(key));
        come(key);
        flash.takeOut(key);
        pledges.add(key, value, now + PROMISE_MINUTES);
        leases.voidFor(key);
    }

    private void keepPromise(int key) {
        int version = writeStore(key, pledges.values[key]);
        pledges.remove(key);
        if (memory.present[key]) {
            memory.copies.versions[key] = version;
            memory.copies.minutes[key] = now;
        }
    }

    /** Writes the promises of a group, or of all, that are due by the minute, in their turns. */
    private int keepPromises(int latest, int group) {
        int written = 0;
        for (int tries = 0; tries < KEYS; tries++) {
            int key = pledges.nextOf(keys, group);
            if (key == NONE || pledges.due[key] > latest) {
                return written;
            }
            keepPromise(key);
            written++;
        }
        return written;
    }

    /** What is told about keys and groups. */
    private static final class Keys {
        final int[] sizes = new int[KEYS];
        final int[] costs = new int[KEYS];
        final int[] groups = new int[KEYS];
        final int[] numbers = new int[GROUPS];

        Keys() {
            for (int key = 0; key < KEYS; key++) {
                sizes[key] = 1;
                costs[key] = 1;
            }
        }

        int numberFor(int key) {
            return numbers[groups[key]];
        }
    }

    /** Rows of what was read from the store: value, version, minute, and the group's number of then. */
    private static final class Copies {
        final int[] values;
        final int[] versions;
        final int[] minutes;
        final int[] numbers;

        Copies(int rows) {
            int length = rows > 0 ? rows : 0;
            values = new int[length];
            versions = new int[length];
            minutes = new int[length];
            numbers = new int[length];
        }

        void put(int row, int value, int version, int minute, int number) {
            values[row] = value;
            versions[row] = version;
            minutes[row] = minute;
            numbers[row] = number;
        }

        void take(int row, Copies from, int fromRow) {
            put(row, from.values[fromRow], from.versions[fromRow], from.minutes[fromRow], from.numbers[fromRow]);
        }
    }

    /** The store with the log of its writes. */
    private static final class Store {
        final int[] values = new int[KEYS];
        final int[] versions = new int[KEYS];
        final int[] logKeys = new int[MOST_WRITES];
        final int[] logVersions = new int[MOST_WRITES];
        final int[] logMinutes = new int[MOST_WRITES];
        int logged = 0;

        int put(int key, int value, int minute) {
            values[key] = value;
            versions[key]++;
            if (logged < MOST_WRITES) {
                logKeys[logged] = key;
                logVersions[logged] = versions[key];
                logMinutes[logged] = minute;
                logged++;
            }
            return versions[key];
        }

        int staleBy(int key, int version, int minute) {
            for (int at = 0; at < logged; at++) {
                if (logKeys[at] == key && logVersions[at] == version + 1) {
                    return minute - logMinutes[at];
                }
            }
            return 0;
        }
    }

    /** The mirror with the messages under way to it, in the order of the writes. */
    private static final class Mirror {
        final int[] values = new int[KEYS];
        final int[] versions = new int[KEYS];
        final int[] sentKeys = new int[MOST_WRITES];
        final int[] sentVersions = new int[MOST_WRITES];
        final int[] sentValues = new int[MOST_WRITES];
        int count = 0;

        void send(int key, int version, int value) {
            if (count < MOST_WRITES) {
                sentKeys[count] = key;
                sentVersions[count] = version;
                sentValues[count] = value;
                count++;
            }
        }

        boolean receive(int index) {
            int key = sentKeys[index];
            boolean isNewer = sentVersions[index] > versions[key];
            if (isNewer) {
                versions[key] = sentVersions[index];
                values[key] = sentValues[index];
            }
            count--;
            for (int at = index; at < count; at++) {
                sentKeys[at] = sentKeys[at + 1];
                sentVersions[at] = sentVersions[at + 1];
                sentValues[at] = sentValues[at + 1];
            }
            return isNewer;
        }
    }

    /** How often keys were asked for, roughly. */
    private static final class Sketch {
        final int[] counters = new int[ROWS * COLUMNS];
        int counted = 0;

        static int placeOf(int key, int row) {
            return row * COLUMNS + ((key * ROW_FACTORS[row] + ROW_SHIFT * row) & (COLUMNS - 1));
        }

        int leastOf(int key) {
            int least = MOST_COUNT;
            for (int row = 0; row < ROWS; row++) {
                int counter = counters[placeOf(key, row)];
                least = counter < least ? counter : least;
            }
            return least;
        }

        void count(int key) {
            int least = leastOf(key);
            for (int row = 0; row < ROWS && least < MOST_COUNT; row++) {
                int place = placeOf(key, row);
                if (counters[place] == least) {
                    counters[place]++;
                }
            }
            counted++;
            if (counted == COUNTS_TO_HALVE) {
                counted = 0;
                halve();
            }
        }

        void halve() {
            for (int place = 0; place < ROWS * COLUMNS; place++) {
                counters[place] /= 2;
            }
        }

        void clear() {
            counted = 0;
            for (int place = 0; place < ROWS * COLUMNS; place++) {
                counters[place] = 0;
            }
        }
    }

    /** The entries of the memory, a row for each key. */
    private static final class Memory {
        final Copies copies = new Copies(KEYS);
        final boolean[] present = new boolean[KEYS];
        final int[] usedAt = new int[KEYS];
        int uses = 0;
        int filled = 0;

        void put(int key, int size, Copies from) {
            if (!present[key]) {
                present[key] = true;
                filled += size;
            }
            copies.take(key, from, 0);
            touch(key);
        }

        void remove(int key, int size) {
            if (present[key]) {
                present[key] = false;
                filled -= size;
            }
        }

        void touch(int key) {
            uses++;
            usedAt[key] = uses;
        }

        int entries() {
            int entries = 0;
            for (int key = 0; key < KEYS; key++) {
                entries += present[key] ? 1 : 0;
            }
            return entries;
        }

        void clear() {
            filled = 0;
            for (int key = 0; key < KEYS; key++) {
                present[key] = false;
            }
        }
    }

    /** The slots of all segments in a row, and the index of the keys that are in the flash. */
    private static final class Flash {
        final Copies copies = new Copies(SLOTS);
        final int[] signs = new int[SLOTS];
        final int[] index = new int[KEYS];
        final int[] wears = new int[SEGMENTS];
        int next = 0;

        Flash() {
            for (int at = 0; at < SLOTS; at++) {
                signs[at] = NONE;
            }
            loseIndex();
        }

        void loseIndex() {
            for (int key = 0; key < KEYS; key++) {
                index[key] = NONE;
            }
        }

        int indexed() {
            int indexed = 0;
            for (int key = 0; key < KEYS; key++) {
                indexed += index[key] == NONE ? 0 : 1;
            }
            return indexed;
        }

        void append(int key, Copies from) {
            int at = nextSlot();
            signs[at] = key;
            copies.take(at, from, key);
            index[key] = at;
        }

        void takeOut(int key) {
            if (index[key] != NONE) {
                signs[nextSlot()] = MARK + key;
                index[key] = NONE;
            }
        }

        int nextSlot() {
            int at = next;
            if (at % SEGMENT_SLOTS == 0) {
                beginAnew(at / SEGMENT_SLOTS);
            }
            next = (at + 1) % SLOTS;
            return at;
        }

        void beginAnew(int segment) {
            int first = segment * SEGMENT_SLOTS;
            for (int key = 0; key < KEYS; key++) {
                if (index[key] >= first && index[key] < first + SEGMENT_SLOTS) {
                    index[key] = NONE;
                }
            }
            for (int at = first; at < first + SEGMENT_SLOTS; at++) {
                signs[at] = NONE;
            }
            wears[segment]++;
        }

        void readAgain(Keys keys) {
            // The slots are a ring, so that from the next one on they stand by rising numbers.
            for (int passed = 0; passed < SLOTS; passed++) {
                int at = (next + passed) % SLOTS;
                int sign = signs[at];
                if (sign >= MARK) {
                    index[sign - MARK] = NONE;
                } else if (sign != NONE) {
                    // An entry of an old number still takes the place of an older one.
                    index[sign] = copies.numbers[at] == keys.numberFor(sign) ? at : NONE;
                }
            }
        }
    }

    /** The promised writes; apart from the memory, as a crash does not lose them. */
    private static final class Pledges {
        final boolean[] waiting = new boolean[KEYS];
        final int[] values = new int[KEYS];
        final int[] due = new int[KEYS];
        int count = 0;

        void add(int key, int value, int minute) {
            if (!waiting[key]) {
                waiting[key] = true;
                due[key] = minute;
                count++;
            }
            values[key] = value;
        }

        void remove(int key) {
            if (waiting[key]) {
                waiting[key] = false;
                count--;
            }
        }

        int nextOf(Keys keys, int group) {
            int best = NONE;
            for (int key = 0; key < KEYS; key++) {
                boolean isMeant = waiting[key] && (group == NONE || keys.groups[key] == group);
                if (isMeant && (best == NONE || isBefore(keys, key, best))) {
                    best = key;
                }
            }
            return best;
        }

        boolean isBefore(Keys keys, int key, int other) {
            return due[key] < due[other] || due[key] == due[other] && keys.costs[key] > keys.costs[other];
        }
    }

    /** The leases by their numbers, with what was read with them. */
    private static final class Leases {
        final Copies copies = new Copies(MOST_LEASES);
        final int[] keyOf = new int[MOST_LEASES];
        final int[] given = new int[MOST_LEASES];
        final boolean[] wasRead = new boolean[MOST_LEASES];
        final char[] ends = new char[MOST_LEASES];
        int count = 0;
        long costs = 0;

        void give(int key, int minute, int cost) {
            if (count < MOST_LEASES) {
                keyOf[count] = key;
                given[count] = minute;
                ends[count] = OUT;
                count++;
                costs += cost;
            }
        }

        char stateOf(int lease, int minute) {
            if (ends[lease] != OUT) {
                return ends[lease];
            }
            if (minute - given[lease] > LEASE_MINUTES) {
                return VOID;
            }
            return wasRead[lease] ? READ : OUT;
        }

        boolean isOutFor(int key, int minute) {
            for (int lease = 0; lease < count; lease++) {
                if (keyOf[lease] == key && ends[lease] == OUT && stateOf(lease, minute) != VOID) {
                    return true;
                }
            }
            return false;
        }

        void voidFor(int key) {
            for (int lease = 0; lease < count; lease++) {
                if (keyOf[lease] == key && ends[lease] == OUT) {
                    ends[lease] = VOID;
                }
            }
        }

        void voidAll() {
            for (int key = 0; key < KEYS; key++) {
                voidFor(key);
            }
        }
    }

    /** What was answered, and how stale it was. */
    private static final class Answers {
        boolean hasLast = false;
        int lastValue = 0;
        int lastStaleness = 0;
        int asked = 0;
        int answered = 0;
        long staleMinutes = 0;
        boolean tooStale = false;

        void tell(int value, int stale, int allowed) {
            asked++;
            answered++;
            hasLast = true;
            lastValue = value;
            lastStaleness = stale;
            staleMinutes += stale;
            tooStale = tooStale || stale > allowed;
        }

        void tellNothing() {
            asked++;
            hasLast = false;
        }
    }

    /** Keys chosen one after another, with the sum of their worths; made once, so that no call makes anything. */
    private static final class Choice {
        final boolean[] chosen = new boolean[KEYS];
        final int[] worths = new int[KEYS];
        final int[] order = new int[KEYS];
        int count = 0;
        int sum = 0;

        void clear() {
            count = 0;
            sum = 0;
            for (int key = 0; key < KEYS; key++) {
                chosen[key] = false;
            }
        }

        void add(int key) {
            if (count < KEYS) {
                chosen[key] = true;
                order[count] = key;
                count++;
                sum += worths[key];
            }
        }
    }
}
