/** Promises 1 to 4 and 17: a new object, sites, object, begin, count of what. */
public final class SetupTest {
    private static final Check CHECK = new Check();

    public static void main(String[] args) {
        newObject();
        sites();
        objects();
        begins();
        counts();
        CHECK.end();
    }

    private static void newObject() {
        FarStore x = new FarStore();
        for (int what = 0; what <= 5; what++) {
            CHECK.due("new: count(" + what + ")", x.count(what), 0);
        }
        CHECK.bad("new: object(0, false)", () -> x.object(0, false));
        CHECK.bad("new: begin(0)", () -> x.begin(0));
        CHECK.bad("new: deliver(0, 1)", () -> x.deliver(0, 1));
        CHECK.bad("new: waiting(0, 1)", () -> x.waiting(0, 1));
        CHECK.bad("new: seen(0, 0)", () -> x.seen(0, 0));
        CHECK.bad("new: read(0, 0)", () -> x.read(0, 0));
        CHECK.bad("new: state(0, 0)", () -> x.state(0, 0));
        CHECK.bad("new: locked(0)", () -> x.locked(0));
        CHECK.bad("new: commit(0)", () -> x.commit(0));
    }

    private static void sites() {
        for (int n = 1; n <= 6; n++) {
            FarStore x = new FarStore();
            x.sites(n);
            int sites = n;
            CHECK.due("sites(" + n + "): count(0)", x.count(0), n);
            CHECK.due("sites(" + n + "): seen of the last", x.seen(n - 1, n - 1), 0);
            CHECK.bad("sites(" + n + "): seen behind the last", () -> x.seen(sites, 0));
            CHECK.refusedCall("sites told twice", () -> x.sites(sites));
            CHECK.refusedCall("other sites told later", () -> x.sites(6));
            CHECK.badCall("bad comes before refused", () -> x.sites(7));
            CHECK.badCall("bad comes before refused", () -> x.sites(0));
            CHECK.due("refused sites change nothing", x.count(0), n);
        }
        FarStore y = new FarStore();
        int[] wrong = {0, 7, -1, Integer.MAX_VALUE, Integer.MIN_VALUE};
        for (int n : wrong) {
            CHECK.badCall("sites(" + n + ")", () -> y.sites(n));
        }
        CHECK.due("bad sites change nothing", y.count(0), 0);
        y.sites(2);
        CHECK.due("after bad ones sites can be told", y.count(0), 2);
    }

    private static void objects() {
        FarStore x = new FarStore();
        x.sites(3);
        CHECK.bad("object(3, false)", () -> x.object(3, false));
        CHECK.bad("object(-1, true)", () -> x.object(-1, true));
        for (int i = 0; i < 200; i++) {
            CHECK.due("object number", x.object(i % 3, i % 2 == 0), i);
        }
        CHECK.refused("object 201", () -> x.object(0, false));
        CHECK.bad("object 201 at no site", () -> x.object(3, false));
        CHECK.due("count(1) when full", x.count(1), 200);
        int t = x.begin(0);
        CHECK.due("the last plain object", x.read(t, 199), 0);
        CHECK.due("the last set", x.count(t, 198, 5), 0);
        CHECK.due("the last object is not locked", x.locked(199), -1);
        CHECK.bad("behind the last object", () -> x.locked(200));
    }

    private static void begins() {
        FarStore x = new FarStore();
        x.sites(2);
        CHECK.bad("begin(2)", () -> x.begin(2));
        CHECK.bad("begin(-1)", () -> x.begin(-1));
        for (int i = 0; i < 500; i++) {
            CHECK.due("transaction number", x.begin(i % 2), i);
        }
        CHECK.refused("transaction 501", () -> x.begin(0));
        CHECK.bad("transaction 501 at no site", () -> x.begin(2));
        CHECK.due("count(2) when full", x.count(2), 500);
        CHECK.due("the last is open", x.state(499, 0), 0);
        CHECK.bad("behind the last transaction", () -> x.state(500, 0));
    }

    private static void counts() {
        FarStore x = new FarStore();
        x.sites(3);
        int plain = x.object(0, false);
        x.object(1, true);
        int t = x.begin(0);
        x.begin(1);
        x.begin(2);
        x.write(t, plain, 1);
        x.commit(t);
        CHECK.due("count(0)", x.count(0), 3);
        CHECK.due("count(1)", x.count(1), 2);
        CHECK.due("count(2)", x.count(2), 3);
        CHECK.due("count(3)", x.count(3), 1);
        CHECK.due("count(4)", x.count(4), 0);
        CHECK.due("count(5)", x.count(5), 2);
        int[] others = {-1, 6, 7, Integer.MAX_VALUE, Integer.MIN_VALUE};
        for (int what : others) {
            CHECK.due("count(" + what + ")", x.count(what), -1);
        }
        x.commit(1);
        CHECK.due("a commit without a number is not counted", x.count(3), 1);
        x.deliver(0, 1);
        CHECK.due("count(5) after one arrived", x.count(5), 1);
    }
}
