import java.util.ArrayList;
import java.util.List;
import java.util.function.ToLongFunction;

/** The last paragraph of the terms: bad, REFUSED, missing, which of them comes first, and what they leave alone. */
final class RefusalBoundaries extends Boundaries {
    private static final int SITES = 3;
    private static final int PLAIN = 0;
    private static final int SET = 1;

    RefusalBoundaries(Check check, Document document) {
        super(check, document);
    }

    @Override
    void all() {
        test("\"Bad\" is IllegalArgumentException: a number out of range.", this::badIsOutOfRange);
        test("REFUSED is IllegalStateException: too many,", this::tooMany);
        test("SITES told twice,", this::sitesToldTwice);
        test("a TRANSACTION that isn't OPEN (where it's to read, write, change, count, commit, abort).",
            this::notOpen);
        test("\"Missing\" is java.util.NoSuchElementException.", this::missing);
        test("Bad comes first", this::badFirst, this::badBeforeTooMany);
        test("(without SITES each SITE is out of range),", this::withoutSites);
        test("then REFUSED, then missing.", this::refusedBeforeMissing);
        test("A refused call changes nothing.", this::refusedCallsChangeNothing, this::refusedWhenFullChangesNothing);
    }

    /** Three sites, PLAIN and SET at home at site 0, and transaction 0, which is open at site 0. */
    private static FarStore small() {
        FarStore x = Check.store(SITES, 0);
        x.object(0, true);
        x.begin(0);
        return x;
    }

    private void badIsOutOfRange() {
        FarStore x = small();
        for (int s : outside(SITES)) {
            check.bad("object(" + s + ", true)", () -> x.object(s, true));
            check.bad("begin(" + s + ")", () -> x.begin(s));
            check.bad("deliver(" + s + ", 0)", () -> x.deliver(s, 0));
            check.bad("deliver(0, " + s + ")", () -> x.deliver(0, s));
            check.bad("waiting(" + s + ", 0)", () -> x.waiting(s, 0));
            check.bad("waiting(0, " + s + ")", () -> x.waiting(0, s));
            check.bad("seen(" + s + ", 0)", () -> x.seen(s, 0));
            check.bad("seen(0, " + s + ")", () -> x.seen(0, s));
        }
        for (int t : outside(1)) {
            badTransaction(x, t);
        }
        for (int o : outside(2)) {
            badObject(x, o);
        }
        for (int n : new int[] {0, -1, 7, Integer.MIN_VALUE, Integer.MAX_VALUE}) {
            check.badCall("sites(" + n + ")", () -> new FarStore().sites(n));
        }
        for (int what : outside(4)) {
            check.bad("state(0, " + what + ")", () -> x.state(0, what));
        }
    }

    private void badTransaction(FarStore x, int t) {
        check.bad("read by " + t, () -> x.read(t, PLAIN));
        check.badCall("write by " + t, () -> x.write(t, PLAIN, 1));
        check.badCall("change by " + t, () -> x.change(t, SET, 1, true));
        check.bad("count by " + t, () -> x.count(t, SET, 1));
        check.bad("element by " + t, () -> x.element(t, SET, 0));
        check.bad("commit(" + t + ")", () -> x.commit(t));
        check.badCall("abort(" + t + ")", () -> x.abort(t));
        check.bad("state(" + t + ", 0)", () -> x.state(t, 0));
    }

    private void badObject(FarStore x, int o) {
        check.bad("read of " + o, () -> x.read(0, o));
        check.badCall("write of " + o, () -> x.write(0, o, 1));
        check.badCall("change of " + o, () -> x.change(0, o, 1, true));
        check.bad("count of " + o, () -> x.count(0, o, 1));
        check.bad("element of " + o, () -> x.element(0, o, 0));
        check.bad("locked(" + o + ")", () -> x.locked(o));
    }

    private void tooMany() {
        FarStore x = Check.store(1);
        for (int i = 0; i < 200; i++) {
            x.object(0, false);
        }
        check.refused("object 201", () -> x.object(0, false));
        check.refused("object 201 again", () -> x.object(0, true));
        check.due("transactions have a limit of their own", x.begin(0), 0);
        FarStore y = Check.store(1);
        for (int i = 0; i < 500; i++) {
            y.begin(0);
        }
        check.refused("transaction 501", () -> y.begin(0));
        check.refused("transaction 501 again", () -> y.begin(0));
        check.due("objects have a limit of their own", y.object(0, false), 0);
    }

    private void sitesToldTwice() {
        for (int n = 1; n <= 6; n++) {
            FarStore x = Check.store(n);
            for (int again = 1; again <= 6; again++) {
                int m = again;
                check.refusedCall(n + " sites, then " + m, () -> x.sites(m));
            }
            check.due("the first ones stay", x.count(0), n);
        }
    }

    private void notOpen() {
        FarStore x = Check.store(2, 0);
        int set = x.object(1, true);
        int beaten = Check.writer(x, 0, 0);
        int told = Check.committed(x, 1, 0);
        int done = Check.committed(x, 0, 0);
        x.commit(beaten);
        Check.deliverAll(x);
        int empty = x.begin(0);
        x.commit(empty);
        int given = x.begin(1);
        x.abort(given);
        int asking = Check.committed(x, 1, 0);
        int[] closed = {beaten, told, done, empty, given, asking};
        int[] states = {2, 2, 1, 1, 2, 3};
        for (int i = 0; i < closed.length; i++) {
            int t = closed[i];
            check.due("what state tells is not refused", x.state(t, 0), states[i]);
            check.refused("read by " + t, () -> x.read(t, 0));
            check.refusedCall("write by " + t, () -> x.write(t, 0, 1));
            check.refusedCall("change by " + t, () -> x.change(t, set, 1, true));
            check.refused("count by " + t, () -> x.count(t, set, 1));
            check.refused("element by " + t, () -> x.element(t, set, 0));
            check.refused("commit(" + t + ")", () -> x.commit(t));
            check.refusedCall("abort(" + t + ")", () -> x.abort(t));
        }
    }

    private void missing() {
        FarStore x = small();
        check.missing("an element of an empty set", () -> x.element(0, SET, 0));
        x.change(0, SET, 7, true);
        check.due("the only element", x.element(0, SET, 0), 7);
        check.missing("the element behind it", () -> x.element(0, SET, 1));
    }

    private void badFirst() {
        FarStore x = small();
        x.abort(0);
        for (int o : outside(2)) {
            badObject(x, o);
        }
        check.bad("a set to read, by one that's not open", () -> x.read(0, SET));
        check.badCall("a set to write, by one that's not open", () -> x.write(0, SET, 1));
        check.badCall("a plain one to change, by one that's not open", () -> x.change(0, PLAIN, 1, true));
        check.bad("a plain one to count, by one that's not open", () -> x.count(0, PLAIN, 1));
        check.bad("a plain one's element, by one that's not open", () -> x.element(0, PLAIN, -1));
        for (int n : new int[] {0, 7, -1}) {
            check.badCall("sites(" + n + "), told already", () -> x.sites(n));
        }
        int open = x.begin(0);
        check.bad("a plain one's element that's missing", () -> x.element(open, PLAIN, -1));
        check.bad("no object's element that's missing", () -> x.element(open, 2, -1));
    }

    private void badBeforeTooMany() {
        FarStore x = Check.store(2);
        for (int i = 0; i < 200; i++) {
            x.object(0, true);
        }
        FarStore y = Check.store(2);
        for (int i = 0; i < 500; i++) {
            y.begin(1);
        }
        for (int s : outside(2)) {
            check.bad("object 201 at site " + s, () -> x.object(s, true));
            check.bad("transaction 501 at site " + s, () -> y.begin(s));
        }
    }

    private void withoutSites() {
        FarStore x = new FarStore();
        for (int s = -1; s <= 6; s++) {
            int site = s;
            int other = s == 0 ? 1 : 0;
            check.bad("object(" + s + ", false)", () -> x.object(site, false));
            check.bad("begin(" + s + ")", () -> x.begin(site));
            check.bad("deliver(" + s + ", " + other + ")", () -> x.deliver(site, other));
            check.bad("waiting(" + s + ", " + other + ")", () -> x.waiting(site, other));
            check.bad("seen(" + s + ", " + s + ")", () -> x.seen(site, site));
        }
        x.sites(1);
        check.due("with a site it's in range", x.begin(0), 0);
    }

    private void refusedBeforeMissing() {
        FarStore x = small();
        x.change(0, SET, 7, true);
        x.commit(0);
        x.begin(0);
        x.abort(1);
        for (int i : outside(1)) {
            check.refused("element " + i + " by one that's committed", () -> x.element(0, SET, i));
            check.refused("element " + i + " by one that's aborted", () -> x.element(1, SET, i));
        }
    }

    /** A story with open, waiting, committed, aborted and held ones; every step is as due without refused calls. */
    private static List<ToLongFunction<FarStore>> story() {
        List<ToLongFunction<FarStore>> steps = new ArrayList<>();
        steps.add(x -> told(() -> x.sites(3)));
        for (int home : new int[] {0, 1, 2, 2}) {
            steps.add(x -> x.object(home, false));
        }
        steps.add(x -> x.object(0, true));
        steps.add(x -> x.begin(0));
        steps.add(x -> Check.writer(x, 1, 1));
        steps.add(x -> told(() -> x.change(1, 4, 7, true)));
        steps.add(x -> x.commit(1));
        steps.add(x -> Check.writer(x, 0, 0, 1, 2));
        steps.add(x -> x.commit(2));
        steps.add(x -> x.deliver(0, 1));
        steps.add(x -> x.deliver(1, 0));
        steps.add(x -> x.deliver(1, 0));
        steps.add(x -> x.deliver(0, 2));
        steps.add(x -> Check.writer(x, 0, 0, 1));
        steps.add(x -> told(() -> x.change(3, 4, 7, false)));
        steps.add(x -> x.commit(3));
        steps.add(x -> x.deliver(0, 1));
        steps.add(x -> x.deliver(1, 0));
        steps.add(x -> x.deliver(0, 2));
        steps.add(x -> x.deliver(0, 2));
        steps.add(x -> Check.writer(x, 2, 2));
        steps.add(x -> told(() -> x.abort(4)));
        steps.add(x -> x.begin(2));
        steps.add(x -> x.commit(5));
        steps.add(x -> x.deliver(1, 2));
        steps.add(x -> x.deliver(0, 1));
        steps.add(x -> x.deliver(2, 0));
        for (int s = 0; s < 3; s++) {
            int site = s;
            steps.add(x -> x.begin(site));
        }
        return steps;
    }

    private static long told(Check.Call call) {
        call.run();
        return 0;
    }

    private void refusedCallsChangeNothing() {
        int steps = story().size();
        List<String> want = answers(-1);
        check.same("the story goes as far as it's meant to", want.subList(steps - 10, steps).toString(),
            "[4, 0, 5, 1, 5, 5, 2, 6, 7, 8]");
        for (int at = 0; at <= steps; at++) {
            check.same("with refused calls before step " + at, answers(at).toString(), want.toString());
        }
    }

    /** What each step answers, and last the whole picture, with refused calls of all sorts before one of the steps. */
    private List<String> answers(int refusedBefore) {
        List<ToLongFunction<FarStore>> steps = story();
        List<String> answers = new ArrayList<>();
        FarStore x = new FarStore();
        for (int i = 0; i < steps.size(); i++) {
            if (i == refusedBefore) {
                refusedOfAllSorts(x);
            }
            answers.add(Long.toString(steps.get(i).applyAsLong(x)));
        }
        if (refusedBefore == steps.size()) {
            refusedOfAllSorts(x);
        }
        answers.add(Check.picture(x));
        return answers;
    }

    private void refusedOfAllSorts(FarStore x) {
        int sites = x.count(0);
        int objects = x.count(1);
        int transactions = x.count(2);
        List<Check.Call> calls = new ArrayList<>(List.of(() -> x.sites(0), () -> x.sites(7), () -> x.object(-1, true),
            () -> x.object(sites, false), () -> x.begin(-1), () -> x.begin(sites), () -> x.deliver(0, 0),
            () -> x.deliver(0, sites), () -> x.deliver(-1, 0), () -> x.waiting(0, 0), () -> x.seen(0, sites),
            () -> x.commit(transactions), () -> x.abort(-1), () -> x.state(transactions, 0), () -> x.locked(objects)));
        if (sites > 0) {
            calls.add(() -> x.sites(2));
        }
        for (int t = 0; t < transactions; t++) {
            addRefusedOf(x, t, calls);
        }
        for (Check.Call call : calls) {
            String answer = Check.told(Check.silent(call));
            check.same("it's refused", answer.equals("0") ? "no" : "yes", "yes");
        }
    }

    private static void addRefusedOf(FarStore x, int t, List<Check.Call> calls) {
        calls.add(() -> x.state(t, 4));
        calls.add(() -> x.write(t, -1, 99));
        if (x.state(t, 0) == 0) {
            calls.add(() -> x.write(t, 4, 99));
            calls.add(() -> x.change(t, 0, 7, true));
            calls.add(() -> x.element(t, 4, 9));
            calls.add(() -> x.element(t, 4, -1));
            return;
        }
        for (int o = 0; o < 4; o++) {
            int object = o;
            calls.add(() -> x.write(t, object, 99));
        }
        calls.add(() -> x.read(t, 0));
        calls.add(() -> x.change(t, 4, 7, true));
        calls.add(() -> x.count(t, 4, 7));
        calls.add(() -> x.element(t, 4, 0));
        calls.add(() -> x.commit(t));
        calls.add(() -> x.abort(t));
    }

    private void refusedWhenFullChangesNothing() {
        FarStore x = Check.store(2);
        for (int i = 0; i < 200; i++) {
            x.object(1, false);
        }
        check.refused("object 201", () -> x.object(0, true));
        check.due("still 200", x.count(1), 200);
        int t = Check.writer(x, 1, 199);
        check.due("the last is still plain and at home at site 1", x.commit(t), 1);
        FarStore y = Check.store(2, 1);
        for (int i = 0; i < 500; i++) {
            y.begin(1);
        }
        check.refused("transaction 501", () -> y.begin(0));
        check.due("still 500", y.count(2), 500);
        y.write(499, 0, 5);
        check.due("the last is still at site 1", y.commit(499), 1);
    }
}
