import java.util.ArrayList;
import java.util.Collection;
import java.util.Comparator;
import java.util.LinkedHashMap;
import java.util.List;
import java.util.Map;
import java.util.NoSuchElementException;
import java.util.TreeMap;

/**
 * The document once more, as plainly as the Java library allows: what the class holds in rows is found here from
 * the log, from lists and from maps, so that both would hardly go wrong in the same way.
 */
final class PlainModel {
    private record Write(int key, int version, int value, int minute) {
    }

    private record Entry(int value, int version, int minute, int number, boolean promised) {
    }

    private record Slot(int key, Entry entry) {
    }

    private record Promise(int key, int value, int due) {
    }

    private static final class Lease {
        private final int key;
        private final int given;
        private final int cost;
        private Entry read;
        private boolean filled;
        private boolean revoked;

        Lease(int key, int given, int cost) {
            this.key = key;
            this.given = given;
            this.cost = cost;
        }
    }

    private final List<Write> log = new ArrayList<>();
    private final List<Write> underWay = new ArrayList<>();
    private final Map<Integer, Write> mirror = new TreeMap<>();
    private final List<Lease> leases = new ArrayList<>();
    private final List<Integer> staleMinutes = new ArrayList<>();
    private final Map<Integer, Promise> promised = new TreeMap<>();
    /** In the order of use. */
    private final LinkedHashMap<Integer, Entry> memory = new LinkedHashMap<>();
    /** By the numbers; an entry is null for a mark. */
    private final TreeMap<Integer, Slot> slots = new TreeMap<>();
    private final Map<Integer, Integer> index = new TreeMap<>();
    private final int[] wears = new int[4];
    private final int[] sizes = new int[32];
    private final int[] costs = new int[32];
    private final int[] groups = new int[32];
    private final int[] numbers = new int[4];
    private final int[][] counters = new int[4][16];
    private int written = 0;
    private int counted = 0;
    private int asked = 0;
    private int minute = 0;
    private boolean down = false;
    private Entry last = null;
    private int lastStale = 0;

    PlainModel() {
        java.util.Arrays.fill(sizes, 1);
        java.util.Arrays.fill(costs, 1);
    }

    private static void unless(boolean holds, RuntimeException otherwise) {
        if (!holds) {
            throw otherwise;
        }
    }

    private static void key(int key) {
        unless(0 <= key && key < 32, new IndexOutOfBoundsException());
    }

    private void up() {
        unless(!down, new IllegalStateException());
    }

    private boolean out(Lease lease) {
        return !lease.filled && !lease.revoked && minute <= lease.given + 5;
    }

    private boolean leased(int key) {
        return leases.stream().anyMatch(lease -> lease.key == key && out(lease));
    }

    private void revoke(int key) {
        leases.stream().filter(lease -> lease.key == key && out(lease)).forEach(lease -> lease.revoked = true);
    }

    private int version(int key) {
        return (int) log.stream().filter(write -> write.key == key).count();
    }

    private int number(int key) {
        return numbers[groups[key]];
    }

    int setKey(int key, int size, int cost, int group) {
        key(key);
        unless(1 <= size && size <= 4 && 1 <= cost && cost <= 9 && 0 <= group && group <= 3,
                new IllegalArgumentException());
        unless(!down && !memory.containsKey(key) && !index.containsKey(key) && !leased(key),
                new IllegalStateException());
        int before = groups[key];
        sizes[key] = size;
        costs[key] = cost;
        groups[key] = group;
        return before;
    }

    private boolean good(int key, Entry entry, int bound) {
        return entry != null && (entry.promised || entry.number == number(key) && minute - entry.minute <= bound);
    }

    private Entry inFlash(int key) {
        return index.containsKey(key) ? slots.get(index.get(key)).entry : null;
    }

    char get(int key, int bound, int grace) {
        key(key);
        unless(0 <= bound && bound <= 60 && 0 <= grace && grace <= 60, new IllegalArgumentException());
        up();
        boolean leased = leased(key);
        char told = leased ? 'w' : 'l';
        Entry given = null;
        boolean fromFlash = false;
        if (good(key, memory.get(key), bound)) {
            told = 'm';
            given = memory.get(key);
        } else if (good(key, inFlash(key), bound)) {
            told = 'f';
            given = inFlash(key);
            fromFlash = true;
        } else if (leased && good(key, memory.get(key), bound + grace)) {
            told = 's';
            given = memory.get(key);
        } else if (leased && good(key, inFlash(key), bound + grace)) {
            told = 's';
            given = inFlash(key);
            fromFlash = true;
        }
        unless(told != 'l' || leases.size() < 60, new UnsupportedOperationException());
        asked++;
        last = given;
        if (told == 'l') {
            leases.add(new Lease(key, minute, costs[key]));
        }
        if (given != null) {
            lastStale = stale(key, given);
            staleMinutes.add(lastStale);
            if (fromFlash && come(key, given, false)) {
                takeOut(key);
            } else if (!fromFlash) {
                use(key);
            }
        }
        count(key);
        return told;
    }

    private int stale(int key, Entry entry) {
        if (entry.promised || entry.version == version(key)) {
            return 0;
        }
        return minute - log.stream().filter(write -> write.key == key && write.version == entry.version + 1)
                .findFirst().orElseThrow().minute;
    }

    private void use(int key) {
        memory.put(key, memory.remove(key));
    }

    private int column(int key, int row) {
        return Math.floorMod(key * new int[] {5, 7, 11, 13}[row] + 3 * row, 16);
    }

    private void count(int key) {
        int estimate = estimateOf(key);
        for (int row = 0; row < 4; row++) {
            int column = column(key, row);
            if (counters[row][column] == estimate) {
                counters[row][column] = Math.min(15, estimate + 1);
            }
        }
        counted++;
        if (counted % 64 == 0) {
            for (int[] row : counters) {
                for (int column = 0; column < 16; column++) {
                    row[column] >>= 1;
                }
            }
        }
    }

    private int estimateOf(int key) {
        int estimate = 99;
        for (int row = 0; row < 4; row++) {
            estimate = Math.min(estimate, counters[row][column(key, row)]);
        }
        return estimate;
    }

    private int worth(int key) {
        return estimateOf(key) * costs[key];
    }

    private int sizeOf(Collection<Integer> keys) {
        return keys.stream().mapToInt(key -> sizes[key]).sum();
    }

    /** Those that are to go, or null if they are not enough. */
    private List<Integer> going(int comer) {
        List<Integer> candidates = new ArrayList<>();
        memory.forEach((key, entry) -> {
            if (!entry.promised && key != comer) {
                candidates.add(key);
            }
        });
        // The sort is stable, so that of those with the same worth the order of use stays.
        candidates.sort(Comparator.comparingInt(this::worth));
        List<Integer> staying = new ArrayList<>(memory.keySet());
        staying.remove((Integer) comer);
        List<Integer> going = new ArrayList<>();
        while (sizeOf(staying) + sizes[comer] > 12) {
            if (candidates.isEmpty()) {
                return null;
            }
            Integer first = candidates.remove(0);
            staying.remove(first);
            going.add(first);
        }
        return going;
    }

    private boolean come(int comer, Entry entry, boolean must) {
        List<Integer> going = going(comer);
        if (going == null) {
            return false;
        }
        int sum = going.stream().mapToInt(this::worth).sum();
        if (!must && !going.isEmpty() && sum >= worth(comer)) {
            return false;
        }
        for (Integer key : going) {
            Entry gone = memory.remove(key);
            if (estimateOf(key) >= 2) {
                index.put(key, toFlash(new Slot(key, gone)));
            }
        }
        memory.remove(comer);
        memory.put(comer, entry);
        return true;
    }

    private int toFlash(Slot slot) {
        int number = written++;
        if (number % 4 == 0) {
            int segment = number / 4 % 4;
            wears[segment]++;
            // The numbers of the segment's slots are those of the round before.
            for (int old = number - 16; old < number - 12; old++) {
                slots.remove(old);
                int lost = old;
                index.values().removeIf(kept -> kept == lost);
            }
        }
        slots.put(number, slot);
        return number;
    }

    private void takeOut(int key) {
        if (index.containsKey(key)) {
            toFlash(new Slot(key, null));
            index.remove(key);
        }
    }

    int value() {
        unless(last != null, new NoSuchElementException());
        return last.value;
    }

    int staleness() {
        unless(last != null, new NoSuchElementException());
        return lastStale;
    }

    int lease() {
        unless(!leases.isEmpty(), new NoSuchElementException());
        return leases.size() - 1;
    }

    private Lease leaseOf(int lease) {
        unless(0 <= lease && lease < leases.size(), new IndexOutOfBoundsException());
        return leases.get(lease);
    }

    int read(int number) {
        Lease lease = leaseOf(number);
        unless(out(lease) && lease.read == null, new IllegalStateException());
        lease.read = new Entry(stored(lease.key), version(lease.key), minute, number(lease.key), false);
        return lease.read.value;
    }

    char fill(int number) {
        Lease lease = leaseOf(number);
        unless(!lease.filled && lease.read != null, new IllegalStateException());
        if (!out(lease)) {
            return 'x';
        }
        lease.filled = true;
        return come(lease.key, lease.read, false) ? 'i' : 'n';
    }

    char leaseState(int number) {
        Lease lease = leaseOf(number);
        return lease.filled ? 'f' : !out(lease) ? 'x' : lease.read != null ? 'r' : 'o';
    }

    private void toStore(int key, int value) {
        Write write = new Write(key, version(key) + 1, value, minute);
        log.add(write);
        underWay.add(write);
    }

    int write(int key, int value, char way) {
        key(key);
        unless("tba".indexOf(way) >= 0, new IllegalArgumentException());
        unless((!down || way == 'a') && log.size() + promised.size() < 400, new IllegalStateException());
        unless(way != 'b' || going(key) != null, new UnsupportedOperationException());
        if (way != 'b') {
            toStore(key, value);
        }
        if (way == 't') {
            promised.remove(key);
            if (memory.remove(key) != null) {
                memory.put(key, new Entry(value, version(key), minute, number(key), false));
            }
        }
        if (way == 'b') {
            come(key, new Entry(value, version(key) + 1, minute, number(key), true), true);
            int due = promised.containsKey(key) ? promised.get(key).due : minute + 3;
            promised.put(key, new Promise(key, value, due));
        }
        if (way != 'a') {
            takeOut(key);
            revoke(key);
        }
        return version(key);
    }

    private List<Promise> turns() {
        List<Promise> turns = new ArrayList<>(promised.values());
        turns.sort(Comparator.comparingInt(Promise::due).thenComparing(promise -> -costs[promise.key])
                .thenComparing(Promise::key));
        return turns;
    }

    private void keep(Promise promise) {
        promised.remove(promise.key);
        toStore(promise.key, promise.value);
        memory.computeIfPresent(promise.key, (key, entry) ->
                new Entry(entry.value, version(key), minute, entry.number, false));
    }

    boolean drop(int key) {
        key(key);
        up();
        boolean there = memory.containsKey(key) || index.containsKey(key);
        if (promised.containsKey(key)) {
            keep(promised.get(key));
        }
        memory.remove(key);
        takeOut(key);
        revoke(key);
        return there;
    }

    int bump(int group) {
        unless(0 <= group && group < 4, new IndexOutOfBoundsException());
        up();
        turns().stream().filter(promise -> groups[promise.key] == group).forEach(this::keep);
        for (int key = 0; key < 32; key++) {
            if (groups[key] == group) {
                revoke(key);
            }
        }
        return ++numbers[group];
    }

    int pass(int minutes) {
        unless(1 <= minutes && minutes <= 60, new IllegalArgumentException());
        unless(minute + minutes <= 5000, new IllegalStateException());
        int kept = 0;
        for (int end = minute + minutes; minute < end;) {
            minute++;
            for (Promise promise : down ? List.<Promise>of() : turns()) {
                if (promise.due == minute) {
                    keep(promise);
                    kept++;
                }
            }
        }
        return kept;
    }

    int crash() {
        up();
        int lost = memory.size();
        leases.stream().filter(this::out).forEach(lease -> lease.revoked = true);
        memory.clear();
        index.clear();
        for (int[] row : counters) {
            java.util.Arrays.fill(row, 0);
        }
        counted = 0;
        down = true;
        return lost;
    }

    int recover() {
        unless(down, new IllegalStateException());
        turns().forEach(this::keep);
        slots.forEach((number, slot) -> {
            index.remove(slot.key);
            if (slot.entry != null) {
                index.put(slot.key, number);
            }
        });
        index.keySet().removeIf(key -> inFlash(key).number != number(key));
        List<Integer> order = new ArrayList<>(index.keySet());
        order.sort(Comparator.comparing((Integer key) -> -costs[key]).thenComparing(key -> -inFlash(key).minute));
        for (Integer key : order) {
            if (used() + sizes[key] <= 12) {
                memory.put(key, inFlash(key));
            }
        }
        down = false;
        return index.size();
    }

    boolean isDown() {
        return down;
    }

    int leaseCount() {
        return leases.size();
    }

    int minute() {
        return minute;
    }

    char where(int key) {
        key(key);
        Entry entry = memory.get(key);
        return entry != null ? entry.promised ? 'p' : 'm' : index.containsKey(key) ? 'f' : '-';
    }

    int used() {
        return sizeOf(memory.keySet());
    }

    int estimate(int key) {
        key(key);
        return estimateOf(key);
    }

    int versionOf(int key) {
        key(key);
        Entry entry = memory.containsKey(key) ? memory.get(key) : inFlash(key);
        unless(entry != null, new NoSuchElementException());
        return entry.version;
    }

    int slot(int segment, int place) {
        unless(0 <= segment && segment < 4 && 0 <= place && place < 4, new IndexOutOfBoundsException());
        for (Map.Entry<Integer, Slot> one : slots.entrySet()) {
            if (one.getKey() % 16 == segment * 4 + place) {
                return one.getValue().key + (one.getValue().entry == null ? 100 : 0);
            }
        }
        return -1;
    }

    int wear(int segment) {
        unless(0 <= segment && segment < 4, new IndexOutOfBoundsException());
        return wears[segment];
    }

    int stored(int key) {
        key(key);
        return log.stream().filter(write -> write.key == key).mapToInt(Write::value).reduce(0, (one, next) -> next);
    }

    int promises() {
        return promised.size();
    }

    int nextPromise() {
        unless(!promised.isEmpty(), new NoSuchElementException());
        return turns().get(0).key;
    }

    int messages() {
        return underWay.size();
    }

    boolean deliver(int place) {
        unless(0 <= place && place < underWay.size(), new IndexOutOfBoundsException());
        Write write = underWay.remove(place);
        boolean takes = !mirror.containsKey(write.key) || mirror.get(write.key).version < write.version;
        if (takes) {
            mirror.put(write.key, write);
        }
        return takes;
    }

    int mirrored(int key) {
        key(key);
        return mirror.containsKey(key) ? mirror.get(key).value : 0;
    }

    long paid() {
        return leases.stream().mapToLong(lease -> lease.cost).sum();
    }

    float answeredShare() {
        unless(asked > 0, new ArithmeticException());
        return (float) staleMinutes.size() / (float) asked;
    }

    double meanStaleness() {
        unless(!staleMinutes.isEmpty(), new ArithmeticException());
        return (double) staleMinutes.stream().mapToInt(stale -> stale).sum() / (double) staleMinutes.size();
    }

    boolean isHonest() {
        return true;
    }
}
