import java.util.NoSuchElementException;
import java.util.function.LongSupplier;

/** What the project's tests share: it compares answers, prints those that are not as due, and ends the program. */
final class Check {
    static final String BAD = "IllegalArgumentException";
    static final String REFUSED = "IllegalStateException";
    static final String MISSING = "NoSuchElementException";

    private int wrong = 0;
    private int made = 0;

    /** A call that answers nothing. */
    interface Call {
        void run();
    }

    /** What a call answers, as a text: a number, or the simple name of the exception that it throws. */
    static String told(LongSupplier call) {
        try {
            return Long.toString(call.getAsLong());
        } catch (IllegalArgumentException | IllegalStateException | NoSuchElementException e) {
            return e.getClass().getSimpleName();
        }
    }

    static LongSupplier silent(Call call) {
        return () -> {
            call.run();
            return 0;
        };
    }

    void same(String what, String got, String want) {
        made++;
        if (!got.equals(want)) {
            wrong++;
            System.out.println(what + " answered " + got + ", due is " + want);
        }
    }

    void due(String what, long got, long want) {
        same(what, Long.toString(got), Long.toString(want));
    }

    void fails(String what, String exception, LongSupplier call) {
        same(what, told(call), exception);
    }

    void bad(String what, LongSupplier call) {
        fails(what, BAD, call);
    }

    void badCall(String what, Call call) {
        fails(what, BAD, silent(call));
    }

    void refused(String what, LongSupplier call) {
        fails(what, REFUSED, call);
    }

    void refusedCall(String what, Call call) {
        fails(what, REFUSED, silent(call));
    }

    void missing(String what, LongSupplier call) {
        fails(what, MISSING, call);
    }

    void end() {
        if (wrong > 0) {
            System.out.println(wrong + " of " + made + " answers are not as due");
            System.exit(1);
        }
    }

    /** A new store with a plain object for each home. */
    static FarStore store(int sites, int... homes) {
        FarStore x = new FarStore();
        x.sites(sites);
        for (int home : homes) {
            x.object(home, false);
        }
        return x;
    }

    /** All that can be asked of a small store without changing it, as one text. */
    static String picture(FarStore x) {
        StringBuilder text = new StringBuilder();
        for (int what = 0; what <= 5; what++) {
            text.append(x.count(what)).append(' ');
        }
        for (int a = 0; a < x.count(0); a++) {
            for (int b = 0; b < x.count(0); b++) {
                text.append(" s").append(x.seen(a, b));
                if (a != b) {
                    text.append(" w").append(x.waiting(a, b));
                }
            }
        }
        for (int o = 0; o < x.count(1); o++) {
            text.append(" l").append(x.locked(o));
        }
        for (int t = 0; t < x.count(2); t++) {
            for (int what = 0; what <= 3; what++) {
                text.append(" t").append(x.state(t, what));
            }
            for (int o = 0; o < x.count(1); o++) {
                text.append(pictureOfObject(x, t, o));
            }
        }
        return text.toString();
    }

    private static String pictureOfObject(FarStore x, int t, int o) {
        StringBuilder text = new StringBuilder();
        text.append(" r").append(told(() -> x.read(t, o)));
        text.append(" e").append(told(() -> x.element(t, o, 0)));
        text.append(" c").append(told(() -> x.count(t, o, 7)));
        return text.toString();
    }

    /** Delivers until nothing waits any more. */
    static void deliverAll(FarStore x) {
        for (int round = 0; round < 1000 && x.count(5) > 0; round++) {
            for (int a = 0; a < x.count(0); a++) {
                for (int b = 0; b < x.count(0); b++) {
                    if (a != b) {
                        x.deliver(a, b);
                    }
                }
            }
        }
    }
}
