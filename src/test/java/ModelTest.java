import java.util.Random;
import java.util.function.LongSupplier;

/** Long runs of calls on the program and on the plain model, which must answer the same; the seeds are fixed. */
public final class ModelTest {
    private static final int RUNS = 1500;
    private static final int CALLS = 512;
    /** How often a pick that would do nothing is taken again. */
    private static final int TRIES = 6;
    private static final Check CHECK = new Check();

    private final FarStore store = new FarStore();
    private final PlainModel model = new PlainModel();
    private final Random random;
    private final int run;
    private final int sites;
    private final int objects;
    private final int openAtOnce;
    /** Links that deliver seldom, so that commits overtake those that they saw. */
    private final int slowLinks;

    private ModelTest(int run) {
        this.run = run;
        random = new Random(run);
        sites = 1 + random.nextInt(6);
        objects = 1 + random.nextInt(run % 3 == 0 ? 12 : 4);
        openAtOnce = 1 + random.nextInt(8);
        slowLinks = 1 + random.nextInt(4);
    }

    public static void main(String[] args) {
        for (int run = 0; run < RUNS; run++) {
            new ModelTest(run).go();
        }
        CHECK.end();
    }

    private void go() {
        same("sites(" + sites + ")", Check.silent(() -> store.sites(sites)), Check.silent(() -> model.sites(sites)));
        for (int call = 1; call < CALLS; call++) {
            if (model.count(1) < objects) {
                makeObject();
            } else {
                step(random.nextInt(100));
            }
        }
    }

    private void same(String call, LongSupplier got, LongSupplier want) {
        CHECK.same("run " + run + ": " + call, Check.told(got), Check.told(want));
    }

    private int site() {
        return random.nextInt(60) == 0 ? random.nextInt(9) - 1 : random.nextInt(sites);
    }

    private int object() {
        return random.nextInt(60) == 0 ? random.nextInt(16) - 2 : random.nextInt(objects);
    }

    /** Mostly an open one of the latest; the others, and some that are not there, now and then. */
    private int transaction() {
        int made = model.count(2);
        if (random.nextInt(12) == 0) {
            return random.nextInt(made + 2) - 1;
        }
        int t = made - 1 - random.nextInt(openAtOnce);
        for (int tries = 0; tries < TRIES && !isOpen(t); tries++) {
            t = made - 1 - random.nextInt(openAtOnce);
        }
        return t;
    }

    private boolean isOpen(int t) {
        return t >= 0 && model.state(t, 0) == 0;
    }

    private void makeObject() {
        int home = site();
        boolean set = random.nextInt(4) == 0;
        same("object(" + home + ", " + set + ")", () -> store.object(home, set), () -> model.object(home, set));
    }

    private void step(int kind) {
        if (kind < 10) {
            int s = site();
            same("begin(" + s + ")", () -> store.begin(s), () -> model.begin(s));
        } else if (kind < 48) {
            useObject(kind);
        } else if (kind < 58) {
            int t = transaction();
            same("commit(" + t + ")", () -> store.commit(t), () -> model.commit(t));
        } else if (kind < 59) {
            int t = transaction();
            same("abort(" + t + ")", Check.silent(() -> store.abort(t)), Check.silent(() -> model.abort(t)));
        } else if (kind < 85) {
            arrive();
        } else {
            look(kind);
        }
    }

    private void arrive() {
        int from = site();
        int to = site();
        for (int tries = 0; tries < TRIES && !carries(from, to); tries++) {
            from = site();
            to = site();
        }
        int a = from;
        int b = to;
        if ((a + 2 * b) % slowLinks != 1 || random.nextInt(6) == 0) {
            same("deliver(" + a + ", " + b + ")", () -> store.deliver(a, b), () -> model.deliver(a, b));
        }
    }

    private boolean carries(int from, int to) {
        boolean link = from != to && Math.min(from, to) >= 0 && Math.max(from, to) < sites;
        return link && model.waiting(from, to) > 0;
    }

    private void useObject(int kind) {
        int t = transaction();
        int o = object();
        int e = random.nextInt(5) - 2;
        boolean add = random.nextInt(3) > 0;
        String names = "(" + t + ", " + o + ", ";
        if (kind < 30) {
            same("write" + names + e + ")", Check.silent(() -> store.write(t, o, e)),
                Check.silent(() -> model.write(t, o, e)));
        } else if (kind < 36) {
            same("change" + names + e + ", " + add + ")", Check.silent(() -> store.change(t, o, e, add)),
                Check.silent(() -> model.change(t, o, e, add)));
        } else if (kind < 42) {
            same("read" + names + ")", () -> store.read(t, o), () -> model.read(t, o));
        } else if (kind < 45) {
            same("count" + names + e + ")", () -> store.count(t, o, e), () -> model.count(t, o, e));
        } else {
            same("element" + names + e + ")", () -> store.element(t, o, e), () -> model.element(t, o, e));
        }
    }

    private void look(int kind) {
        int a = site();
        int b = site();
        int t = transaction();
        int o = object();
        int what = random.nextInt(9) - 1;
        if (kind < 87) {
            same("waiting(" + a + ", " + b + ")", () -> store.waiting(a, b), () -> model.waiting(a, b));
        } else if (kind < 90) {
            same("seen(" + a + ", " + b + ")", () -> store.seen(a, b), () -> model.seen(a, b));
        } else if (kind < 94) {
            same("state(" + t + ", " + what + ")", () -> store.state(t, what), () -> model.state(t, what));
        } else if (kind < 97) {
            same("locked(" + o + ")", () -> store.locked(o), () -> model.locked(o));
        } else {
            same("count(" + what + ")", () -> store.count(what), () -> model.count(what));
        }
    }
}
