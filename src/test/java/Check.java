import java.io.IOException;
import java.io.UncheckedIOException;
import java.nio.file.Files;
import java.nio.file.Path;
import java.util.ArrayList;
import java.util.Arrays;
import java.util.List;
import java.util.Map;
import java.util.TreeMap;

/** Counts the checks of one test and tells the wrong ones with the line they stand in. */
final class Check {
    static final int PROMISES = 32;
    private static final Path DOCUMENT = Path.of("../shared/DOC.md");
    private static final Map<Integer, List<String>> WORDS_TOLD = new TreeMap<>();
    private static int checks = 0;
    private static int wrong = 0;
    private static String document = "";
    private static String sentence = "";

    private Check() {
    }

    /** A call that a test makes. */
    interface Call {
        Object answer();
    }

    /** The checks that follow belong to these words of the document, and to the promise. */
    static void sentence(int promise, String words) {
        checks++;
        sentence = "promise " + promise + ", \"" + words + "\": ";
        WORDS_TOLD.computeIfAbsent(promise, unknown -> new ArrayList<>()).add(words);
        if (!between("## What it is", "## Promise 1:").contains(words) && !textOf(promise).contains(words)) {
            tell("the document does not say this there");
        }
    }

    /** Each promise has words told, and the words behind each of its "Throws" are all told. */
    static void everyPromiseHasItsSentences() {
        for (int promise = 1; promise <= PROMISES; promise++) {
            sentence = "promise " + promise + ": ";
            due(true, WORDS_TOLD.containsKey(promise));
            for (String line : textOf(promise).split("\n")) {
                if (line.startsWith("Throws `")) {
                    due("", withoutTold(promise, line.replaceFirst("Throws `\\w+` ", "")));
                }
            }
        }
        sentence = "";
    }

    private static String withoutTold(int promise, String line) {
        String left = line;
        for (String words : WORDS_TOLD.getOrDefault(promise, List.of())) {
            left = left.replace(words, "");
        }
        return left.replace(",", "").trim();
    }

    static String textOf(int promise) {
        return between("## Promise " + promise + ":",
                promise < PROMISES ? "## Promise " + (promise + 1) + ":" : "## Not promised");
    }

    private static String between(String first, String end) {
        if (document.isEmpty()) {
            try {
                document = Files.readString(DOCUMENT);
            } catch (IOException unread) {
                throw new UncheckedIOException(unread);
            }
        }
        return document.substring(document.indexOf(first), document.indexOf(end));
    }

    static void due(Object want, Object got) {
        checks++;
        if (!want.equals(got)) {
            tell("answered " + got + ", due is " + want);
        }
    }

    /** The very class is due: what the machine throws is of a class below it. */
    static void throwing(Class<? extends RuntimeException> want, Call call) {
        checks++;
        try {
            Object got = call.answer();
            tell("answered " + got + ", due is " + want.getSimpleName());
        } catch (RuntimeException thrown) {
            if (thrown.getClass() != want) {
                tell("threw " + thrown + ", due is " + want.getSimpleName());
            }
        }
    }

    /** The very class is due, and all that the object holds is as before. */
    static void refused(Class<? extends RuntimeException> want, SlipstreamCache x, Call call) {
        String before = Inside.of(x);
        throwing(want, call);
        checks++;
        if (!before.equals(Inside.of(x))) {
            tell("a refused call has changed something");
        }
    }

    static void tell(String what) {
        wrong++;
        StackTraceElement place = StackWalker.getInstance()
                .walk(frames -> frames.filter(frame -> !frame.getClassName().equals("Check")).findFirst())
                .orElseThrow().toStackTraceElement();
        System.out.println(place.getFileName() + ":" + place.getLineNumber() + ": " + sentence + what);
    }

    static void end(String test) {
        System.out.println(test + ": " + checks + " checks, " + wrong + " wrong");
        if (wrong != 0) {
            System.exit(1);
        }
    }

    /** Fills the key's entry by a new lease; answers what fill() answers. */
    static char load(SlipstreamCache x, int key) {
        due('l', x.get(key, 0, 0));
        x.read(x.lease());
        return x.fill(x.lease());
    }

    /** Asks for a key that is not answered, until its estimate has grown by the times; a lease is out behind it. */
    static void miss(SlipstreamCache x, int key, int times) {
        due('l', x.get(key, 0, 0));
        for (int time = 1; time < times; time++) {
            due('w', x.get(key, 0, 0));
        }
    }

    static void readAndFill(SlipstreamCache x, int lease, char want) {
        x.read(lease);
        due(want, x.fill(lease));
    }

    /**
     * The keys 0 to 3 have the size 4, the cost 1 and the estimates 2, 3, 3, 4; 1, 2 and 3 are in the memory,
     * used in this order, and 0 is in the first slot of the flash; all were read in the minute 0, when each was
     * written once, with the value 10 plus the key.
     */
    static SlipstreamCache withFlash() {
        SlipstreamCache x = new SlipstreamCache();
        int[] times = {2, 3, 3, 4};
        for (int key = 0; key < 4; key++) {
            x.setKey(key, 4, 1, 0);
            x.write(key, 10 + key, 'a');
            miss(x, key, times[key]);
        }
        for (int lease = 0; lease < 4; lease++) {
            readAndFill(x, lease, 'i');
        }
        due('f', x.where(0));
        due(0, x.slot(0, 0));
        return x;
    }

    /**
     * Brings the key, told with its size and cost, into the flash alone: it is loaded with the estimate grown by 2,
     * and pushed out by promises of 29, 30 and 31, which have the size 4 and are dropped again.
     */
    static void toFlash(SlipstreamCache x, int key, int size, int cost) {
        x.setKey(key, size, cost, 0);
        miss(x, key, 2);
        readAndFill(x, x.lease(), 'i');
        push(x);
        due('f', x.where(key));
    }

    /** All that is in the memory goes, as 29, 30 and 31 need all of the room; they are dropped behind that. */
    static void push(SlipstreamCache x) {
        for (int pusher = 29; pusher <= 31; pusher++) {
            x.setKey(pusher, 4, 1, 0);
            x.write(pusher, 1, 'b');
        }
        for (int pusher = 29; pusher <= 31; pusher++) {
            x.drop(pusher);
        }
    }

    /** The keys from 0 on are in the flash alone, in the slots of the same numbers at first. */
    static SlipstreamCache flashOf(int[] sizes, int[] costs, int minutesBetween) {
        SlipstreamCache x = new SlipstreamCache();
        for (int key = 0; key < sizes.length; key++) {
            toFlash(x, key, sizes[key], costs[key]);
            if (minutesBetween > 0) {
                x.pass(minutesBetween);
            }
        }
        return x;
    }

    /** As many keys of the size 4 and the cost 1 in the flash alone, all read in the minute 0. */
    static SlipstreamCache flashOf(int keys) {
        return flashOf(times(keys, 4), times(keys, 1), 0);
    }

    static int[] times(int count, int number) {
        int[] numbers = new int[count];
        Arrays.fill(numbers, number);
        return numbers;
    }

    static void slots(SlipstreamCache x, int segment, int first, int second, int third, int fourth) {
        due(first, x.slot(segment, 0));
        due(second, x.slot(segment, 1));
        due(third, x.slot(segment, 2));
        due(fourth, x.slot(segment, 3));
    }
}
