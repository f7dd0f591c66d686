import java.util.function.LongSupplier;

/** What the project's tests share: it compares answers, prints those that are not as due, and ends the program. */
final class Check {
    static final String BAD = "IllegalArgumentException";
    static final String REFUSED = "IllegalStateException";
    static final String MISSING = "NoSuchElementException";

    private int wrong = 0;
    private int made = 0;
    private String sentence = "";

    /** A call that answers nothing. */
    interface Call {
        void run();
    }

    /** What a call answers, as a text: a number, or the simple name of the exception that it throws. */
    static String told(LongSupplier call) {
        try {
            return Long.toString(call.getAsLong());
        } catch (RuntimeException e) {
            return e.getClass().getSimpleName();
        }
    }

    static LongSupplier silent(Call call) {
        return () -> {
            call.run();
            return 0;
        };
    }

    /** What is checked from here on stands for these words of the document. */
    void standsFor(String words) {
        sentence = "\"" + words + "\": ";
    }

    void same(String what, String got, String want) {
        made++;
        if (!got.equals(want)) {
            wrong++;
            System.out.println(sentence + what + " answered " + got + ", due is " + want);
        }
    }

    void due(String what, long got, long want) {
        same(what, Long.toString(got), Long.toString(want));
    }

    void fails(String what, String exception, LongSupplier call) {
        same(what, told(call), exception);
    }

    void bad(String what, LongSupplier call) {
        fails(what, BAD, call);
    }

    void badCall(String what, Call call) {
        fails(what, BAD, silent(call));
    }

    void refused(String what, LongSupplier call) {
        fails(what, REFUSED, call);
    }

    void refusedCall(String what, Call call) {
        fails(what, REFUSED, silent(call));
    }

    void missing(String what, LongSupplier call) {
        fails(what, MISSING, call);
    }

    /** A test whose calls throw what they shouldn't ends there, and those behind it go on. */
    void ends(Call test) {
        try {
            test.run();
        } catch (RuntimeException e) {
            same(callerOfStore(e), e.getClass().getSimpleName(), "no exception");
        }
    }

    private static String callerOfStore(RuntimeException e) {
        for (StackTraceElement line : e.getStackTrace()) {
            if (!line.getClassName().startsWith("FarStore")) {
                return line.toString();
            }
        }
        return "a call";
    }

    void end() {
        if (wrong > 0) {
            System.out.println(wrong + " of " + made + " answers are not as due");
            System.exit(1);
        }
    }

    /** A new store with a plain object for each home. */
    static FarStore store(int sites, int... homes) {
        FarStore x = new FarStore();
        x.sites(sites);
        for (int home : homes) {
            x.object(home, false);
        }
        return x;
    }

    /** A new transaction that has written 10 and its own number to each of the objects. */
    static int writer(FarStore x, int site, int... objects) {
        int t = x.begin(site);
        for (int object : objects) {
            x.write(t, object, 10 + t);
        }
        return t;
    }

    /** A transaction that wrote as writer does, and was to commit. */
    static int committed(FarStore x, int site, int... objects) {
        int t = writer(x, site, objects);
        x.commit(t);
        return t;
    }

    /** A transaction that added one element to a set, and was to commit. */
    static int adder(FarStore x, int site, int set, int element) {
        int t = x.begin(site);
        x.change(t, set, element, true);
        x.commit(t);
        return t;
    }

    /** All that state tells of a transaction, from what 0 on. */
    void states(FarStore x, String when, int t, int... want) {
        for (int what = 0; what < want.length; what++) {
            due(when + ": state(" + t + ", " + what + ")", x.state(t, what), want[what]);
        }
    }

    /** Who has locked each object, from object 0 on. */
    void locks(FarStore x, String when, int... want) {
        for (int object = 0; object < want.length; object++) {
            due(when + ": locked(" + object + ")", x.locked(object), want[object]);
        }
    }

    /** All that can be asked of a small store without changing it, as one text. */
    static String picture(FarStore x) {
        StringBuilder text = new StringBuilder();
        for (int what = 0; what <= 5; what++) {
            text.append(x.count(what)).append(' ');
        }
        for (int a = 0; a < x.count(0); a++) {
            for (int b = 0; b < x.count(0); b++) {
                text.append(" s").append(x.seen(a, b));
                if (a != b) {
                    text.append(" w").append(x.waiting(a, b));
                }
            }
        }
        for (int o = 0; o < x.count(1); o++) {
            text.append(" l").append(x.locked(o));
        }
        for (int t = 0; t < x.count(2); t++) {
            for (int what = 0; what <= 3; what++) {
                text.append(" t").append(x.state(t, what));
            }
            for (int o = 0; o < x.count(1); o++) {
                text.append(pictureOfObject(x, t, o));
            }
        }
        return text.toString();
    }

    private static String pictureOfObject(FarStore x, int t, int o) {
        StringBuilder text = new StringBuilder();
        text.append(" r").append(told(() -> x.read(t, o)));
        text.append(" e").append(told(() -> x.element(t, o, 0)));
        text.append(" c").append(told(() -> x.count(t, o, 7)));
        return text.toString();
    }

    /** Delivers until nothing waits any more. */
    static void deliverAll(FarStore x) {
        for (int round = 0; round < 1000 && x.count(5) > 0; round++) {
            for (int a = 0; a < x.count(0); a++) {
                for (int b = 0; b < x.count(0); b++) {
                    if (a != b) {
                        x.deliver(a, b);
                    }
                }
            }
        }
    }
}
