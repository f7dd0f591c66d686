/** Promises 10, 11, 15 and 16: commit, abort, state and locked. */
public final class CommitTest {
    private static final Check CHECK = new Check();

    public static void main(String[] args) {
        nothingDone();
        setsAddedAndTaken();
        allAtItsSite();
        conflictAtItsSite();
        asksOtherHomes();
        ownLocksAndOwnConflict();
        lockedByAnother();
        lockStaysUntilApplied();
        firstNo();
        laterAnswersAreNothing();
        lateMessageOneLocks();
        messageFourLeavesOthersLocks();
        toAllOfSixSites();
        conflictNeedsApplied();
        wrongInputs();
        CHECK.end();
    }

    private static void nothingDone() {
        FarStore x = Check.store(2, 0);
        int t = x.begin(0);
        CHECK.states(x, "open", t, 0, 0, 0, 0);
        x.read(t, 0);
        CHECK.due("only reads", x.commit(t), 1);
        CHECK.states(x, "only reads", t, 1, 0, 0, 0);
        CHECK.due("no number is used", x.seen(0, 0), 0);
        CHECK.due("no commit", x.count(3), 0);
        CHECK.due("no message", x.count(5), 0);
    }

    private static void setsAddedAndTaken() {
        FarStore x = Check.store(2, 0);
        int set = x.object(1, true);
        int t = x.begin(0);
        x.change(t, set, 3, true);
        x.change(t, set, 3, false);
        CHECK.due("as much taken as added", x.commit(t), 1);
        CHECK.states(x, "as much taken as added", t, 1, 1, 1, 0);
        CHECK.due("it goes to the other site", x.waiting(0, 1), 1);
    }

    private static void allAtItsSite() {
        FarStore x = Check.store(3, 0, 0);
        int set = x.object(1, true);
        int t = Check.writer(x, 0, 0, 1);
        x.change(t, set, 3, true);
        CHECK.due("at its own site", x.commit(t), 1);
        CHECK.states(x, "at its own site", t, 1, 1, 1, 0);
        CHECK.locks(x, "no locks", -1, -1, -1);
        CHECK.due("to site 1", x.waiting(0, 1), 1);
        CHECK.due("to site 2", x.waiting(0, 2), 1);
        CHECK.due("not to itself", x.count(5), 2);
        CHECK.due("seen at once", x.seen(0, 0), 1);
        x.deliver(0, 2);
        CHECK.states(x, "applied at two", t, 1, 1, 2, 0);
        x.deliver(0, 1);
        CHECK.states(x, "applied at all", t, 1, 1, 3, 0);
        int next = Check.writer(x, 0, 0);
        CHECK.due("the next one", x.commit(next), 1);
        CHECK.states(x, "the next number", next, 1, 2, 1, 0);
    }

    private static void conflictAtItsSite() {
        FarStore x = Check.store(2, 0, 0, 0);
        int one = Check.writer(x, 0, 0);
        int two = Check.writer(x, 0, 1, 0);
        int three = Check.writer(x, 0, 2);
        int reader = x.begin(0);
        x.read(reader, 0);
        CHECK.due("the first", x.commit(one), 1);
        CHECK.due("the second wrote the same", x.commit(two), 2);
        CHECK.states(x, "the second", two, 2, 0, 0, 0);
        CHECK.due("the third wrote another", x.commit(three), 1);
        CHECK.due("a reader has no conflict", x.commit(reader), 1);
        CHECK.due("no messages of an aborted one", x.waiting(0, 1), 2);
        CHECK.due("nobody reads its write", x.read(x.begin(0), 1), 0);
        int again = Check.writer(x, 0, 0, 1);
        CHECK.due("begun behind the first", x.commit(again), 1);
    }

    private static void asksOtherHomes() {
        FarStore x = Check.store(4, 0, 1, 2, 2);
        int t = Check.writer(x, 0, 3, 2, 1, 0);
        CHECK.due("asks", x.commit(t), 3);
        CHECK.states(x, "asks", t, 3, 0, 0, 2);
        CHECK.locks(x, "asks", t, -1, -1, -1);
        CHECK.due("one to site 1", x.waiting(0, 1), 1);
        CHECK.due("one to site 2", x.waiting(0, 2), 1);
        CHECK.due("none to site 3", x.waiting(0, 3), 0);
        CHECK.due("MESSAGE 1 to site 2", x.deliver(0, 2), 1);
        CHECK.locks(x, "site 2 locks", t, -1, t, t);
        CHECK.due("site 2 answers", x.waiting(2, 0), 1);
        CHECK.states(x, "the answer is on its way", t, 3, 0, 0, 2);
        CHECK.due("yes of site 2", x.deliver(2, 0), 2);
        CHECK.states(x, "one yes", t, 3, 0, 0, 1);
        CHECK.due("MESSAGE 1 to site 1", x.deliver(0, 1), 1);
        CHECK.due("yes of site 1", x.deliver(1, 0), 2);
        CHECK.states(x, "all yes", t, 1, 1, 1, 0);
        CHECK.locks(x, "its own lock is gone", -1, t, t, t);
        for (int s = 1; s < 4; s++) {
            CHECK.due("the commit to site " + s, x.deliver(0, s), 5);
            CHECK.states(x, "applied there", t, 1, 1, s + 1, 0);
        }
        CHECK.locks(x, "all locks are gone", -1, -1, -1, -1);
        CHECK.due("nothing waits", x.count(5), 0);
    }

    private static void ownLocksAndOwnConflict() {
        FarStore x = Check.store(2, 0, 1);
        int one = Check.writer(x, 0, 0);
        int two = Check.writer(x, 0, 0, 1);
        x.commit(one);
        CHECK.due("a conflict at its own site: it does not ask", x.commit(two), 2);
        CHECK.states(x, "not asked", two, 2, 0, 0, 0);
        CHECK.due("only the first's commit waits", x.count(5), 1);
        CHECK.locks(x, "nothing is locked", -1, -1);
        int three = Check.writer(x, 0, 1);
        CHECK.due("none of its own site", x.commit(three), 3);
        CHECK.locks(x, "nothing locked at home yet", -1, -1);
    }

    private static void lockedByAnother() {
        FarStore x = Check.store(3, 0, 1, 0);
        int far = Check.writer(x, 0, 0, 1);
        x.commit(far);
        int near = Check.writer(x, 0, 0);
        CHECK.due("locked by another at its own site", x.commit(near), 2);
        int half = Check.writer(x, 0, 1, 0);
        CHECK.due("locked by another, one of several", x.commit(half), 2);
        int other = Check.writer(x, 2, 0, 2);
        CHECK.due("asks for it", x.commit(other), 3);
        CHECK.due("MESSAGE 1", x.deliver(2, 0), 1);
        CHECK.locks(x, "with a conflict of one none is locked", far, -1, -1);
        CHECK.due("no", x.deliver(0, 2), 3);
        CHECK.states(x, "no", other, 2, 0, 0, 0);
        CHECK.due("no MESSAGE 4 to the one that said no", x.waiting(2, 0), 0);
        CHECK.locks(x, "another's lock stays", far, -1, -1);
    }

    private static void lockStaysUntilApplied() {
        FarStore x = Check.store(2, 0);
        int far = Check.writer(x, 1, 0);
        x.commit(far);
        x.deliver(1, 0);
        x.deliver(0, 1);
        CHECK.states(x, "committed", far, 1, 1, 1, 0);
        CHECK.locks(x, "the commit has yet to arrive", far);
        int near = Check.writer(x, 0, 0);
        CHECK.due("still locked", x.commit(near), 2);
        int late = Check.writer(x, 0, 0);
        CHECK.due("the commit arrives", x.deliver(1, 0), 5);
        CHECK.locks(x, "arrived", -1);
        CHECK.due("applied but not visible", x.commit(late), 2);
        CHECK.due("visible", x.commit(Check.writer(x, 0, 0)), 1);
    }

    private static void firstNo() {
        FarStore x = Check.store(4, 0, 1, 2, 3);
        x.commit(Check.writer(x, 2, 2));
        int t = Check.writer(x, 0, 0, 1, 2, 3);
        x.commit(t);
        x.deliver(0, 1);
        x.deliver(0, 2);
        CHECK.locks(x, "site 1 has locked, site 2 has not", t, t, -1, -1);
        CHECK.due("the commit of site 2", x.deliver(2, 0), 5);
        CHECK.due("no of site 2", x.deliver(2, 0), 3);
        CHECK.states(x, "no", t, 2, 0, 0, 0);
        CHECK.locks(x, "its own lock is gone", -1, t, -1, -1);
        CHECK.due("MESSAGE 4 to site 1", x.waiting(0, 1), 1);
        CHECK.due("none to site 2", x.waiting(0, 2), 0);
        CHECK.due("MESSAGE 4 to site 3, behind MESSAGE 1", x.waiting(0, 3), 2);
        CHECK.due("MESSAGE 4 arrives", x.deliver(0, 1), 4);
        CHECK.locks(x, "the lock at site 1 is gone", -1, -1, -1, -1);
    }

    private static void laterAnswersAreNothing() {
        FarStore x = Check.store(3, 1, 2);
        x.commit(Check.writer(x, 1, 0));
        x.commit(Check.writer(x, 2, 1));
        int t = Check.writer(x, 0, 0, 1);
        x.commit(t);
        x.deliver(0, 1);
        x.deliver(0, 2);
        x.deliver(1, 0);
        x.deliver(2, 0);
        CHECK.due("the first no", x.deliver(1, 0), 3);
        CHECK.due("MESSAGE 4 to the other one", x.waiting(0, 2), 1);
        CHECK.due("the second no", x.deliver(2, 0), 3);
        CHECK.due("no MESSAGE 4 for a second no", x.waiting(0, 1), 0);
        CHECK.due("still one to site 2", x.waiting(0, 2), 1);
        CHECK.states(x, "aborted once", t, 2, 0, 0, 0);

        FarStore y = Check.store(3, 1, 2);
        y.commit(Check.writer(y, 1, 0));
        int u = Check.writer(y, 0, 0, 1);
        y.commit(u);
        y.deliver(0, 1);
        y.deliver(0, 2);
        y.deliver(1, 0);
        CHECK.due("no", y.deliver(1, 0), 3);
        CHECK.due("a later yes", y.deliver(2, 0), 2);
        CHECK.states(y, "a later yes is nothing", u, 2, 0, 0, 0);
        CHECK.locks(y, "it stays locked until MESSAGE 4", -1, u);
        CHECK.due("MESSAGE 4", y.deliver(0, 2), 4);
        CHECK.locks(y, "unlocked", -1, -1);
    }

    private static void lateMessageOneLocks() {
        FarStore x = Check.store(3, 1, 2);
        x.commit(Check.writer(x, 1, 0));
        int t = Check.writer(x, 0, 0, 1);
        x.commit(t);
        x.deliver(0, 1);
        x.deliver(1, 0);
        x.deliver(1, 0);
        CHECK.states(x, "aborted before site 2 was asked", t, 2, 0, 0, 0);
        CHECK.due("MESSAGE 1 of an aborted one", x.deliver(0, 2), 1);
        CHECK.locks(x, "it locks", -1, t);
        CHECK.due("and is answered", x.waiting(2, 0), 1);
        int near = Check.writer(x, 2, 1);
        CHECK.due("locked for others", x.commit(near), 2);
        CHECK.due("MESSAGE 4 behind it", x.deliver(0, 2), 4);
        CHECK.locks(x, "unlocked", -1, -1);
        CHECK.due("free again", x.commit(Check.writer(x, 2, 1)), 1);
        CHECK.due("yes of an aborted one", x.deliver(2, 0), 2);
        CHECK.states(x, "still aborted", t, 2, 0, 0, 0);
    }

    private static void messageFourLeavesOthersLocks() {
        FarStore x = Check.store(4, 1, 2);
        x.commit(Check.writer(x, 1, 0));
        int holder = Check.writer(x, 3, 1);
        x.commit(holder);
        x.deliver(3, 2);
        int t = Check.writer(x, 0, 0, 1);
        x.commit(t);
        x.deliver(0, 1);
        x.deliver(0, 2);
        x.deliver(1, 0);
        CHECK.due("the first no", x.deliver(1, 0), 3);
        CHECK.due("MESSAGE 4 to one that will say no too", x.deliver(0, 2), 4);
        CHECK.locks(x, "another's lock stays", -1, holder);
        CHECK.due("the holder's yes", x.deliver(2, 3), 2);
        CHECK.states(x, "the holder commits", holder, 1, 1, 1, 0);
    }

    private static void toAllOfSixSites() {
        FarStore x = Check.store(6, 0, 1, 2, 3, 4, 5);
        int t = Check.writer(x, 2, 5, 4, 3, 2, 1, 0);
        CHECK.due("asks all", x.commit(t), 3);
        CHECK.states(x, "asks all", t, 3, 0, 0, 5);
        int[] others = {0, 1, 3, 4, 5};
        for (int home : others) {
            CHECK.due("MESSAGE 1 to site " + home, x.deliver(2, home), 1);
            CHECK.due("yes of site " + home, x.deliver(home, 2), 2);
        }
        CHECK.states(x, "all five have said yes", t, 1, 1, 1, 0);
        for (int home : others) {
            CHECK.due("still locked at " + home, x.locked(home), t);
            CHECK.due("the commit to site " + home, x.deliver(2, home), 5);
            CHECK.due("no lock at " + home, x.locked(home), -1);
        }
        CHECK.states(x, "applied at all six", t, 1, 1, 6, 0);
    }

    private static void conflictNeedsApplied() {
        FarStore x = Check.store(2, 0);
        int t = Check.writer(x, 1, 0);
        x.commit(t);
        x.commit(Check.writer(x, 0, 0));
        CHECK.due("MESSAGE 1 behind another's commit at home", x.deliver(1, 0), 1);
        CHECK.due("the commit", x.deliver(0, 1), 5);
        CHECK.due("no", x.deliver(0, 1), 3);
        CHECK.states(x, "no", t, 2, 0, 0, 0);
        int u = Check.writer(x, 1, 0);
        x.commit(u);
        x.deliver(1, 0);
        CHECK.due("what is visible is no conflict", x.deliver(0, 1), 2);
        CHECK.states(x, "yes", u, 1, 1, 1, 0);
    }

    private static void wrongInputs() {
        FarStore x = Check.store(2, 0, 1);
        int open = Check.writer(x, 0, 0);
        int done = Check.writer(x, 1, 1);
        x.commit(done);
        int gone = x.begin(0);
        x.abort(gone);
        CHECK.states(x, "aborted", gone, 2, 0, 0, 0);
        int asking = Check.writer(x, 1, 0);
        x.commit(asking);
        String before = Check.picture(x);
        int[] none = {-1, 4, Integer.MAX_VALUE, Integer.MIN_VALUE};
        for (int t : none) {
            CHECK.bad("commit(" + t + ")", () -> x.commit(t));
            CHECK.badCall("abort(" + t + ")", () -> x.abort(t));
            CHECK.bad("state(" + t + ", 0)", () -> x.state(t, 0));
            CHECK.bad("state(0, " + t + ")", () -> x.state(open, t));
            CHECK.bad("locked(" + t + ")", () -> x.locked(t));
        }
        CHECK.bad("locked(2)", () -> x.locked(2));
        int[] closed = {done, gone, asking};
        for (int t : closed) {
            CHECK.refused("commit of one not open: " + t, () -> x.commit(t));
            CHECK.refusedCall("abort of one not open: " + t, () -> x.abort(t));
        }
        CHECK.same("nothing has changed", Check.picture(x), before);
        x.abort(open);
        CHECK.states(x, "aborted with writes", open, 2, 0, 0, 0);
        CHECK.due("abort sends nothing", x.waiting(0, 1), 0);
    }
}
