/** Promises 5 and 6: read and write of plain objects. */
public final class ReadWriteTest {
    private static final Check CHECK = new Check();

    public static void main(String[] args) {
        ownWrites();
        snapshots();
        latestOfVisible();
        commitNumbersOfSitesAreApart();
        wrongInputs();
        CHECK.end();
    }

    private static void ownWrites() {
        FarStore x = Check.store(2);
        int a = x.object(0, false);
        int b = x.object(1, false);
        int t = x.begin(0);
        CHECK.due("first value", x.read(t, a), 0);
        x.write(t, a, 5);
        CHECK.due("own write", x.read(t, a), 5);
        x.write(t, a, Long.MIN_VALUE);
        CHECK.due("own last write", x.read(t, a), Long.MIN_VALUE);
        x.write(t, b, Long.MAX_VALUE);
        CHECK.due("own write to another's object", x.read(t, b), Long.MAX_VALUE);
        int other = x.begin(0);
        CHECK.due("nobody else reads what is not committed", x.read(other, a), 0);
        x.write(t, a, 0);
        CHECK.due("own write of 0", x.read(t, a), 0);
    }

    private static void snapshots() {
        FarStore x = Check.store(2);
        int a = x.object(0, false);
        int before = x.begin(0);
        int far = x.begin(1);
        int t = x.begin(0);
        x.write(t, a, 7);
        CHECK.due("commit", x.commit(t), 1);
        CHECK.due("begun before", x.read(before, a), 0);
        int behind = x.begin(0);
        CHECK.due("begun behind", x.read(behind, a), 7);
        int farToo = x.begin(1);
        CHECK.due("far, not arrived", x.read(farToo, a), 0);
        x.deliver(0, 1);
        CHECK.due("far, begun before it arrived", x.read(farToo, a), 0);
        CHECK.due("far, begun long before", x.read(far, a), 0);
        CHECK.due("far, begun behind its arrival", x.read(x.begin(1), a), 7);
        int late = x.begin(0);
        x.write(late, a, 8);
        CHECK.due("own write before what is visible", x.read(late, a), 8);
        x.abort(late);
        CHECK.due("an aborted write is never read", x.read(x.begin(0), a), 7);
    }

    private static void latestOfVisible() {
        FarStore x = Check.store(2);
        int a = x.object(0, false);
        int[] readers = new int[4];
        for (int i = 0; i < 4; i++) {
            int t = x.begin(0);
            x.write(t, a, 100 + i);
            CHECK.due("commit at home", x.commit(t), 1);
            readers[i] = x.begin(0);
        }
        for (int i = 0; i < 4; i++) {
            CHECK.due("each reads what was latest when it began", x.read(readers[i], a), 100 + i);
        }
        for (int i = 0; i < 4; i++) {
            x.deliver(0, 1);
            CHECK.due("the other site goes along one by one", x.read(x.begin(1), a), 100 + i);
        }
        int t = x.begin(1);
        x.write(t, a, 50);
        CHECK.due("from afar", x.commit(t), 3);
        x.deliver(1, 0);
        x.deliver(0, 1);
        CHECK.due("committed afar", x.state(t, 0), 1);
        CHECK.due("read where it was committed", x.read(x.begin(1), a), 50);
        CHECK.due("at home it has yet to arrive", x.read(x.begin(0), a), 103);
        x.deliver(1, 0);
        CHECK.due("at home, arrived", x.read(x.begin(0), a), 50);
        int last = x.begin(0);
        x.write(last, a, 51);
        CHECK.due("site 0 again", x.commit(last), 1);
        CHECK.due("later than the one of site 1", x.read(x.begin(0), a), 51);
    }

    private static void commitNumbersOfSitesAreApart() {
        FarStore x = Check.store(3);
        int a = x.object(1, false);
        int b = x.object(2, false);
        for (int i = 1; i <= 3; i++) {
            int t = x.begin(1);
            x.write(t, a, i);
            x.commit(t);
        }
        int u = x.begin(2);
        x.write(u, b, 9);
        x.commit(u);
        x.deliver(2, 0);
        x.deliver(1, 0);
        int t = x.begin(0);
        CHECK.due("one of three of site 1", x.read(t, a), 1);
        CHECK.due("the one of site 2", x.read(t, b), 9);
    }

    private static void wrongInputs() {
        FarStore x = Check.store(2);
        int plain = x.object(0, false);
        int set = x.object(0, true);
        int open = x.begin(0);
        int done = x.begin(0);
        x.commit(done);
        int gone = x.begin(0);
        x.abort(gone);
        int asking = x.begin(1);
        x.write(asking, plain, 3);
        x.commit(asking);
        String before = Check.picture(x);
        int[][] bad = {{open, set}, {open, 2}, {open, -1}, {4, plain}, {-1, plain}, {done, set}, {gone, 2},
            {Integer.MIN_VALUE, plain}, {open, Integer.MAX_VALUE}};
        for (int[] pair : bad) {
            CHECK.bad("read(" + pair[0] + ", " + pair[1] + ")", () -> x.read(pair[0], pair[1]));
            CHECK.badCall("write(" + pair[0] + ", " + pair[1] + ", 1)", () -> x.write(pair[0], pair[1], 1));
        }
        int[] closed = {done, gone, asking};
        for (int t : closed) {
            CHECK.refused("read of one not open: " + t, () -> x.read(t, plain));
            CHECK.refusedCall("write of one not open: " + t, () -> x.write(t, plain, 1));
        }
        CHECK.same("nothing has changed", Check.picture(x), before);
    }
}
