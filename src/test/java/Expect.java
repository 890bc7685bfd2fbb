/** Counts the answers that are not due, each told with the promise that asks for it. */
final class Expect {
    /** A call that is expected to throw. */
    interface Call {
        long run();
    }

    private static int right = 0;
    private static int wrong = 0;

    private Expect() {
    }

    static void due(int promise, String call, long got, long want) {
        if (got == want) {
            right++;
        } else {
            wrong++;
            System.out.println("promise " + promise + ": " + call + " answered " + got + ", due is " + want);
        }
    }

    static void due(int promise, String call, boolean got, boolean want) {
        due(promise, call, got ? 1 : 0, want ? 1 : 0);
    }

    static void due(int promise, String call, String got, String want) {
        if (got.equals(want)) {
            right++;
        } else {
            wrong++;
            System.out.println("promise " + promise + ": " + call + " answered " + got + ", due is " + want);
        }
    }

    static void index(int promise, ReviewForge forge, String call, Call run) {
        refused(promise, forge, call, IndexOutOfBoundsException.class, run);
    }

    static void argument(int promise, ReviewForge forge, String call, Call run) {
        refused(promise, forge, call, IllegalArgumentException.class, run);
    }

    static void state(int promise, ReviewForge forge, String call, Call run) {
        refused(promise, forge, call, IllegalStateException.class, run);
    }

    /** The call has to throw just this exception, and nothing that can be asked for may have changed by it. */
    private static void refused(int promise, ReviewForge forge, String call, Class<?> due, Call run) {
        String earlier = Snapshot.of(forge);
        String got;
        try {
            got = "answered " + run.run();
        } catch (RuntimeException thrown) {
            got = nameOf(thrown);
        }
        due(promise, call, got, due.getSimpleName());
        due(promise, call + " changed something", Snapshot.of(forge), earlier);
    }

    /** What the machine or the library throws is told apart from what the program throws itself. */
    static String nameOf(Throwable thrown) {
        String place = thrown.getStackTrace()[0].getClassName();
        boolean isOwn = place.startsWith("ReviewForge") || place.startsWith("Model");
        return thrown.getClass().getSimpleName() + (isOwn ? "" : " in " + place);
    }

    static void finish(String test) {
        System.out.println(test + ": " + right + " answers as due, " + wrong + " not");
        if (wrong != 0 || right == 0) {
            System.exit(1);
        }
    }
}
