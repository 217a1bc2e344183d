/** Counts the checks of one test and tells the wrong ones with the line they stand in. */
final class Check {
    private static int checks = 0;
    private static int wrong = 0;

    private Check() {
    }

    /** A call that a test makes. */
    interface Call {
        Object answer();
    }

    static void due(Object want, Object got) {
        checks++;
        if (!want.equals(got)) {
            tell("answered " + got + ", due is " + want);
        }
    }

    /** The very class is due: what the machine throws is of a class below it. */
    static void throwing(Class<? extends RuntimeException> want, Call call) {
        checks++;
        try {
            Object got = call.answer();
            tell("answered " + got + ", due is " + want.getSimpleName());
        } catch (RuntimeException thrown) {
            if (thrown.getClass() != want) {
                tell("threw " + thrown + ", due is " + want.getSimpleName());
            }
        }
    }

    static void tell(String what) {
        wrong++;
        StackTraceElement place = StackWalker.getInstance()
                .walk(frames -> frames.filter(frame -> !frame.getClassName().equals("Check")).findFirst())
                .orElseThrow().toStackTraceElement();
        System.out.println(place.getFileName() + ":" + place.getLineNumber() + ": " + what);
    }

    static void end(String test) {
        System.out.println(test + ": " + checks + " checks, " + wrong + " wrong");
        if (wrong != 0) {
            System.exit(1);
        }
    }

    /** Fills the key's entry by a new lease; answers what fill() answers. */
    static char load(SlipstreamCache x, int key) {
        due('l', x.get(key, 0, 0));
        x.read(x.lease());
        return x.fill(x.lease());
    }

    /** Asks for a key that is not answered, until its estimate has grown by the times; a lease is out behind it. */
    static void miss(SlipstreamCache x, int key, int times) {
        due('l', x.get(key, 0, 0));
        for (int time = 1; time < times; time++) {
            due('w', x.get(key, 0, 0));
        }
    }

    static void readAndFill(SlipstreamCache x, int lease, char want) {
        x.read(lease);
        due(want, x.fill(lease));
    }

    /**
     * The keys 0 to 3 have the size 4, the cost 1 and the estimates 2, 3, 3, 4; 1, 2 and 3 are in the memory,
     * used in this order, and 0 is in the first slot of the flash; all were read in the minute 0, when each was
     * written once, with the value 10 plus the key.
     */
    static SlipstreamCache withFlash() {
        SlipstreamCache x = new SlipstreamCache();
        int[] times = {2, 3, 3, 4};
        for (int key = 0; key < 4; key++) {
            x.setKey(key, 4, 1, 0);
            x.write(key, 10 + key, 'a');
            miss(x, key, times[key]);
        }
        for (int lease = 0; lease < 4; lease++) {
            readAndFill(x, lease, 'i');
        }
        due('f', x.where(0));
        due(0, x.slot(0, 0));
        return x;
    }

    static void slots(SlipstreamCache x, int segment, int first, int second, int third, int fourth) {
        due(first, x.slot(segment, 0));
        due(second, x.slot(segment, 1));
        due(third, x.slot(segment, 2));
        due(fourth, x.slot(segment, 3));
    }
}
