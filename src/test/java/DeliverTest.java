/** Promises 12, 13, 14 and 15: deliver, waiting, seen, and what is applied or held. */
public final class DeliverTest {
    private static final Check CHECK = new Check();

    public static void main(String[] args) {
        inOrder();
        heldForWhatItSaw();
        heldForTheNumberBefore();
        chainOfHeld();
        heldKeepsLocks();
        wrongInputs();
        CHECK.end();
    }

    private static int commitOne(FarStore x, int site, int object) {
        int t = x.begin(site);
        x.write(t, object, 10 + t);
        CHECK.due("commits at once", x.commit(t), 1);
        return t;
    }

    private static void inOrder() {
        FarStore x = Check.store(2, 0, 1);
        CHECK.due("none waits", x.deliver(0, 1), 0);
        CHECK.due("none waits back", x.waiting(1, 0), 0);
        commitOne(x, 0, 0);
        int asking = x.begin(0);
        x.write(asking, 1, 5);
        x.commit(asking);
        commitOne(x, 0, 0);
        CHECK.due("three wait", x.waiting(0, 1), 3);
        CHECK.due("none back", x.waiting(1, 0), 0);
        CHECK.due("first the commit", x.deliver(0, 1), 5);
        CHECK.due("seen", x.seen(1, 0), 1);
        CHECK.due("then MESSAGE 1", x.deliver(0, 1), 1);
        CHECK.due("one waits", x.waiting(0, 1), 1);
        CHECK.due("the answer waits", x.waiting(1, 0), 1);
        CHECK.due("then the second commit", x.deliver(0, 1), 5);
        CHECK.due("seen two", x.seen(1, 0), 2);
        CHECK.due("seen of itself", x.seen(0, 0), 2);
        CHECK.due("seen of the other", x.seen(0, 1), 0);
        CHECK.due("none is left", x.deliver(0, 1), 0);
        CHECK.due("yes", x.deliver(1, 0), 2);
        CHECK.due("seen of itself, third", x.seen(0, 0), 3);
    }

    private static void heldForWhatItSaw() {
        FarStore x = Check.store(3, 0, 1, 2);
        int first = commitOne(x, 0, 0);
        x.deliver(0, 1);
        int second = commitOne(x, 1, 1);
        CHECK.due("the second arrives before what it saw", x.deliver(1, 2), 5);
        CHECK.due("held", x.count(4), 1);
        CHECK.due("not seen", x.seen(2, 1), 0);
        CHECK.due("not applied there", x.state(second, 2), 1);
        CHECK.due("not read", x.read(x.begin(2), 1), 0);
        CHECK.due("nothing waits there any more", x.waiting(1, 2), 0);
        CHECK.due("the first arrives", x.deliver(0, 2), 5);
        CHECK.due("none is held", x.count(4), 0);
        CHECK.due("first seen", x.seen(2, 0), 1);
        CHECK.due("second seen", x.seen(2, 1), 1);
        CHECK.due("first applied at all", x.state(first, 2), 3);
        CHECK.due("second applied at two", x.state(second, 2), 2);
        CHECK.due("read", x.read(x.begin(2), 1), 10 + second);
        CHECK.due("the second arrives where it was seen", x.deliver(1, 0), 5);
        CHECK.due("second applied at all", x.state(second, 2), 3);
    }

    private static void heldForTheNumberBefore() {
        FarStore x = Check.store(3, 0, 1, 1);
        int blind = x.begin(1);
        x.write(blind, 2, 77);
        commitOne(x, 0, 0);
        x.deliver(0, 1);
        int sighted = commitOne(x, 1, 1);
        CHECK.due("it began before all", x.commit(blind), 1);
        CHECK.due("it has the second number", x.state(blind, 1), 2);
        x.deliver(1, 2);
        x.deliver(1, 2);
        CHECK.due("both are held, the second for the first's sake", x.count(4), 2);
        CHECK.due("none is seen", x.seen(2, 1), 0);
        x.deliver(0, 2);
        CHECK.due("none is held any more", x.count(4), 0);
        CHECK.due("both are seen", x.seen(2, 1), 2);
        CHECK.due("sighted applied", x.state(sighted, 2), 2);
        CHECK.due("blind applied", x.state(blind, 2), 2);
        CHECK.due("blind is read", x.read(x.begin(2), 2), 77);
    }

    private static void chainOfHeld() {
        FarStore x = Check.store(5, 0, 1, 2, 3, 4);
        for (int s = 0; s < 4; s++) {
            commitOne(x, s, s);
            for (int before = 0; before <= s && s < 3; before++) {
                x.deliver(before, s + 1);
            }
            if (s > 0) {
                CHECK.due("a commit arrives before what it saw", x.deliver(s, 4), 5);
                CHECK.due("the chain is held", x.count(4), s);
            }
        }
        CHECK.due("the chain's head arrives", x.deliver(0, 4), 5);
        CHECK.due("all are applied", x.count(4), 0);
        for (int s = 0; s < 4; s++) {
            CHECK.due("seen of site " + s, x.seen(4, s), 1);
        }
    }

    private static void heldKeepsLocks() {
        FarStore x = Check.store(3, 0, 2);
        commitOne(x, 0, 0);
        x.deliver(0, 1);
        int t = x.begin(1);
        x.write(t, 1, 5);
        x.commit(t);
        x.deliver(1, 2);
        x.deliver(2, 1);
        CHECK.due("committed", x.state(t, 0), 1);
        x.deliver(1, 2);
        CHECK.due("held at its object's home", x.count(4), 1);
        CHECK.due("the lock stays while it is held", x.locked(1), t);
        x.deliver(0, 2);
        CHECK.due("applied", x.seen(2, 1), 1);
        CHECK.due("the lock is gone", x.locked(1), -1);
    }

    private static void wrongInputs() {
        FarStore x = Check.store(3, 0, 1);
        commitOne(x, 0, 0);
        String before = Check.picture(x);
        int[][] bad = {{0, 0}, {2, 2}, {0, 3}, {3, 0}, {-1, 0}, {0, -1}, {3, 3}, {Integer.MIN_VALUE, 1},
            {1, Integer.MAX_VALUE}};
        for (int[] pair : bad) {
            CHECK.bad("deliver(" + pair[0] + ", " + pair[1] + ")", () -> x.deliver(pair[0], pair[1]));
            CHECK.bad("waiting(" + pair[0] + ", " + pair[1] + ")", () -> x.waiting(pair[0], pair[1]));
            if (pair[0] != pair[1]) {
                CHECK.bad("seen(" + pair[0] + ", " + pair[1] + ")", () -> x.seen(pair[0], pair[1]));
            }
        }
        CHECK.bad("seen(3, 3)", () -> x.seen(3, 3));
        CHECK.due("seen of the same is fine", x.seen(2, 2), 0);
        CHECK.due("no message is none", x.deliver(2, 0), 0);
        CHECK.same("nothing has changed", Check.picture(x), before);
    }
}
