/** Promises 7, 8 and 9: change, count of an element, element. */
public final class SetTest {
    private static final Check CHECK = new Check();

    public static void main(String[] args) {
        ownChanges();
        orderOfElements();
        manyElements();
        countsOfVisible();
        setsCommitEverywhere();
        wrongInputs();
        CHECK.end();
    }

    private static void ownChanges() {
        FarStore x = Check.store(1);
        int set = x.object(0, true);
        int twin = x.object(0, true);
        int t = x.begin(0);
        CHECK.due("first count", x.count(t, set, 4), 0);
        CHECK.missing("an empty set", () -> x.element(t, set, 0));
        x.change(t, set, 4, true);
        x.change(t, set, 4, true);
        x.change(t, set, 5, false);
        CHECK.due("added twice", x.count(t, set, 4), 2);
        CHECK.due("taken once", x.count(t, set, 5), -1);
        CHECK.due("another set", x.count(t, twin, 4), 0);
        CHECK.missing("another set's elements", () -> x.element(t, twin, 0));
        CHECK.due("element 0", x.element(t, set, 0), 4);
        CHECK.due("element 1, below 0", x.element(t, set, 1), 5);
        CHECK.missing("element 2", () -> x.element(t, set, 2));
        CHECK.missing("element -1", () -> x.element(t, set, -1));
        CHECK.missing("element MIN", () -> x.element(t, set, Integer.MIN_VALUE));
        CHECK.missing("element MAX", () -> x.element(t, set, Integer.MAX_VALUE));
        x.change(t, set, 4, false);
        x.change(t, set, 4, false);
        CHECK.due("taken as often as added", x.count(t, set, 4), 0);
        CHECK.due("a count of 0 is passed over", x.element(t, set, 0), 5);
        CHECK.missing("only one is left", () -> x.element(t, set, 1));
    }

    private static void orderOfElements() {
        FarStore x = Check.store(1);
        int set = x.object(0, true);
        int t = x.begin(0);
        int[] added = {3, Integer.MAX_VALUE, -1, 0, Integer.MIN_VALUE, -70000, 70000};
        int[] ordered = {Integer.MIN_VALUE, -70000, -1, 0, 3, 70000, Integer.MAX_VALUE};
        for (int element : added) {
            x.change(t, set, element, element > 0);
        }
        for (int i = 0; i < ordered.length; i++) {
            CHECK.due("element " + i + " by order", x.element(t, set, i), ordered[i]);
        }
        CHECK.missing("behind the last", () -> x.element(t, set, ordered.length));
    }

    private static void manyElements() {
        FarStore x = Check.store(1);
        int set = x.object(0, true);
        int t = x.begin(0);
        int many = 250;
        for (int i = 0; i < many; i++) {
            x.change(t, set, (i * 97) % many, true);
        }
        for (int i = 0; i < many; i++) {
            CHECK.due("element " + i + " of many", x.element(t, set, i), i);
        }
        CHECK.missing("behind the last of many", () -> x.element(t, set, many));
    }

    private static void countsOfVisible() {
        FarStore x = Check.store(2);
        int set = x.object(0, true);
        int old = x.begin(0);
        int t = x.begin(0);
        x.change(t, set, 1, true);
        x.change(t, set, 1, true);
        x.change(t, set, 2, true);
        CHECK.due("a set alone commits", x.commit(t), 1);
        CHECK.due("begun before", x.count(old, set, 1), 0);
        CHECK.missing("begun before: no element", () -> x.element(old, set, 0));
        int behind = x.begin(0);
        CHECK.due("begun behind", x.count(behind, set, 1), 2);
        x.change(behind, set, 1, false);
        CHECK.due("with its own", x.count(behind, set, 1), 1);
        x.change(behind, set, 1, false);
        CHECK.due("with its own, to 0", x.count(behind, set, 1), 0);
        CHECK.due("to 0: passed over", x.element(behind, set, 0), 2);
        x.abort(behind);
        CHECK.due("an aborted change counts nothing", x.count(x.begin(0), set, 1), 2);
        int far = x.begin(1);
        CHECK.due("far, not arrived", x.count(far, set, 1), 0);
        x.deliver(0, 1);
        CHECK.due("far, begun before", x.count(far, set, 1), 0);
        int farBehind = x.begin(1);
        CHECK.due("far, arrived", x.count(farBehind, set, 1), 2);
        CHECK.due("far, element", x.element(farBehind, set, 1), 2);
    }

    private static void setsCommitEverywhere() {
        FarStore x = Check.store(3);
        int set = x.object(0, true);
        for (int s = 0; s < 3; s++) {
            int t = x.begin(s);
            x.change(t, set, 7, s != 1);
            CHECK.due("commits without asking at site " + s, x.commit(t), 1);
            CHECK.due("its number is its site's first", x.state(t, 1), 1);
            CHECK.due("sets are not locked", x.locked(set), -1);
        }
        CHECK.due("six commits are on their way", x.count(5), 6);
        int sum = x.begin(1);
        CHECK.due("below 0 at site 1", x.count(sum, set, 7), -1);
        Check.deliverAll(x);
        for (int s = 0; s < 3; s++) {
            CHECK.due("all counted at site " + s, x.count(x.begin(s), set, 7), 1);
        }
        CHECK.due("nothing is held", x.count(4), 0);
    }

    private static void wrongInputs() {
        FarStore x = Check.store(2);
        int plain = x.object(0, false);
        int set = x.object(0, true);
        int open = x.begin(0);
        x.change(open, set, 7, true);
        int done = x.begin(0);
        x.change(done, set, 7, true);
        x.commit(done);
        int gone = x.begin(0);
        x.abort(gone);
        int asking = x.begin(1);
        x.write(asking, plain, 3);
        x.commit(asking);
        String before = Check.picture(x);
        int[][] bad = {{open, plain}, {open, 2}, {open, -1}, {4, set}, {-1, set}, {done, plain}, {gone, 2}};
        for (int[] pair : bad) {
            CHECK.badCall("change of " + pair[0] + ", " + pair[1], () -> x.change(pair[0], pair[1], 7, true));
            CHECK.bad("count of " + pair[0] + ", " + pair[1], () -> x.count(pair[0], pair[1], 7));
            CHECK.bad("element of " + pair[0] + ", " + pair[1], () -> x.element(pair[0], pair[1], 0));
            CHECK.bad("bad before missing", () -> x.element(pair[0], pair[1], -1));
        }
        int[] closed = {done, gone, asking};
        for (int t : closed) {
            CHECK.refusedCall("change of one not open: " + t, () -> x.change(t, set, 7, false));
            CHECK.refused("count of one not open: " + t, () -> x.count(t, set, 7));
            CHECK.refused("element of one not open: " + t, () -> x.element(t, set, 0));
            CHECK.refused("refused before missing: " + t, () -> x.element(t, set, -1));
        }
        CHECK.same("nothing has changed", Check.picture(x), before);
    }
}
