/** When a COMMIT is APPLIED or HELD, which of those HELD come next, and in which order MESSAGES arrive. */
final class ArrivalBoundaries extends Boundaries {
    ArrivalBoundaries(Check check, Document document) {
        super(check, document);
    }

    @Override
    void all() {
        test("A COMMIT that arrives is APPLIED if the number before it of its SITE is, "
            + "and all that's VISIBLE to its TRANSACTION is APPLIED here; else it's HELD.",
            this::heldForWhatItSaw, this::heldForTheNumberBefore,
            this::notHeldForWhatCameBehindItsBegin, this::heldChangesNothingThere);
        test("After one is APPLIED, of those HELD the one that arrived first of those that can be is APPLIED, "
            + "and again.",
            this::heldInAnyOrder, this::someStayHeld, this::heldAtSeveralSites);
        test("Where a COMMIT is APPLIED, its TRANSACTION's LOCKS go.",
            this::appliedUnlocks, this::appliedOutOfHeldUnlocks);
        test("MESSAGES from a SITE to another one wait in order, and arrive when they are told to.",
            this::messagesWaitInOrder);
    }

    private void heldForWhatItSaw() {
        for (int here = 0; here <= 3; here++) {
            FarStore x = Check.store(3);
            int set = x.object(0, true);
            for (int i = 0; i < 3; i++) {
                Check.adder(x, 0, set, 1);
            }
            x.deliver(0, 1);
            x.deliver(0, 1);
            int t = Check.adder(x, 1, set, 2);
            for (int i = 0; i < here; i++) {
                x.deliver(0, 2);
            }
            check.due("it arrives", x.deliver(1, 2), 5);
            boolean all = here >= 2;
            check.due("it saw 2, here are " + here + ": seen", x.seen(2, 1), all ? 1 : 0);
            check.due("it saw 2, here are " + here + ": held", x.count(4), all ? 0 : 1);
            check.states(x, "it saw 2, here are " + here, t, 1, 1, all ? 2 : 1, 0);
        }
    }

    private void heldForTheNumberBefore() {
        FarStore x = Check.store(3);
        int set = x.object(0, true);
        int blind = x.begin(1);
        x.change(blind, set, 3, true);
        Check.adder(x, 0, set, 1);
        x.deliver(0, 1);
        Check.adder(x, 1, set, 2);
        x.commit(blind);
        check.states(x, "it saw nothing, but is number 2", blind, 1, 2);
        x.deliver(1, 2);
        x.deliver(1, 2);
        check.due("number 2 is held as number 1 is", x.count(4), 2);
        check.due("none of them is applied", x.seen(2, 1), 0);
        check.due("none of them is counted", x.count(x.begin(2), set, 3), 0);
        x.deliver(0, 2);
        check.due("what number 1 saw frees both", x.seen(2, 1), 2);
    }

    private void notHeldForWhatCameBehindItsBegin() {
        FarStore x = Check.store(3);
        int set = x.object(0, true);
        int blind = x.begin(1);
        x.change(blind, set, 2, true);
        Check.adder(x, 0, set, 1);
        x.deliver(0, 1);
        x.commit(blind);
        check.due("its site had it when it committed, but not when it began", x.deliver(1, 2), 5);
        check.due("applied", x.seen(2, 1), 1);
        check.due("not held", x.count(4), 0);
    }

    private void heldChangesNothingThere() {
        FarStore x = Check.store(3, 0, 1);
        Check.committed(x, 0, 0);
        x.deliver(0, 1);
        int t = Check.committed(x, 1, 1);
        x.deliver(1, 2);
        check.due("held", x.count(4), 1);
        check.due("not waiting any more", x.waiting(1, 2), 0);
        check.due("not seen", x.seen(2, 1), 0);
        check.states(x, "not applied there", t, 1, 1, 1, 0);
        check.due("not read there", x.read(x.begin(2), 1), 0);
        check.due("read at its own site", x.read(x.begin(1), 1), 10 + t);
        check.due("it arrives where it can be applied", x.deliver(1, 0), 5);
        check.states(x, "applied there", t, 1, 1, 2, 0);
        check.due("still held at the other site", x.count(4), 1);
    }

    /** Sites 1 to 4 each saw all of those before; they reach site 5 in each of these orders, site 0's last. */
    private void heldInAnyOrder() {
        int[][] orders = {{1, 2, 3, 4}, {4, 3, 2, 1}, {2, 4, 1, 3}, {3, 1, 4, 2}};
        for (int[] order : orders) {
            FarStore x = Check.store(6);
            int set = x.object(0, true);
            for (int s = 0; s <= 4; s++) {
                for (int before = 0; before < s; before++) {
                    x.deliver(before, s);
                }
                Check.adder(x, s, set, s);
            }
            for (int s : order) {
                check.due("it arrives", x.deliver(s, 5), 5);
                check.due("it's held", x.seen(5, s), 0);
            }
            check.due("all four are held", x.count(4), 4);
            check.due("the one that all saw", x.deliver(0, 5), 5);
            check.due("none is held", x.count(4), 0);
            int reader = x.begin(5);
            for (int s = 0; s <= 4; s++) {
                check.due("seen of site " + s, x.seen(5, s), 1);
                check.due("counted of site " + s, x.count(reader, set, s), 1);
            }
        }
    }

    private void someStayHeld() {
        FarStore x = Check.store(4);
        int set = x.object(0, true);
        Check.adder(x, 0, set, 1);
        x.deliver(0, 1);
        x.deliver(0, 2);
        Check.adder(x, 0, set, 1);
        x.deliver(0, 2);
        Check.adder(x, 2, set, 3);
        Check.adder(x, 1, set, 2);
        x.deliver(2, 3);
        x.deliver(1, 3);
        check.due("both are held", x.count(4), 2);
        x.deliver(0, 3);
        check.due("the second that arrived can be applied", x.seen(3, 1), 1);
        check.due("the first that arrived can't", x.seen(3, 2), 0);
        check.due("it stays held", x.count(4), 1);
        x.deliver(0, 3);
        check.due("now it can", x.seen(3, 2), 1);
        check.due("none is held", x.count(4), 0);
    }

    private void heldAtSeveralSites() {
        FarStore x = Check.store(4);
        int set = x.object(0, true);
        Check.adder(x, 0, set, 1);
        x.deliver(0, 1);
        int t = Check.adder(x, 1, set, 2);
        x.deliver(1, 2);
        x.deliver(1, 3);
        check.due("held at two sites", x.count(4), 2);
        x.deliver(0, 3);
        check.due("applied at one of them", x.count(4), 1);
        check.states(x, "applied at one of them", t, 1, 1, 2, 0);
        check.due("not at the other one", x.seen(2, 1), 0);
    }

    private void appliedUnlocks() {
        FarStore x = Check.store(3, 0, 1, 1, 2, 1);
        int t = Check.committed(x, 0, 0, 1, 2, 3);
        x.deliver(0, 1);
        x.deliver(0, 2);
        int other = Check.committed(x, 2, 4);
        x.deliver(2, 1);
        x.deliver(1, 0);
        check.locks(x, "while it's waiting", t, t, t, t, other);
        x.deliver(2, 0);
        check.states(x, "it commits", t, 1, 1, 1);
        check.locks(x, "gone at its own site", -1, t, t, t, other);
        x.deliver(0, 2);
        check.locks(x, "gone at site 2", -1, t, t, -1, other);
        x.deliver(0, 1);
        check.locks(x, "gone at site 1, but not another's", -1, -1, -1, -1, other);
    }

    private void appliedOutOfHeldUnlocks() {
        FarStore x = Check.store(3, 2, 2);
        int set = x.object(0, true);
        Check.adder(x, 0, set, 1);
        x.deliver(0, 1);
        int t = Check.committed(x, 1, 0, 1);
        x.deliver(1, 2);
        x.deliver(2, 1);
        check.due("the commit arrives", x.deliver(1, 2), 5);
        check.locks(x, "held: the locks stay", t, t);
        check.due("held: others have a conflict", x.commit(Check.writer(x, 2, 0)), 2);
        x.deliver(0, 2);
        check.locks(x, "applied: the locks go", -1, -1);
        check.due("applied: others have none", x.commit(Check.writer(x, 2, 0)), 1);
    }

    private void messagesWaitInOrder() {
        FarStore x = Check.store(3, 0, 1);
        Check.committed(x, 0, 0);
        Check.committed(x, 2, 1);
        Check.committed(x, 0, 1);
        Check.committed(x, 0, 0);
        check.due("three of site 0", x.waiting(0, 1), 3);
        check.due("one of site 2, which came between", x.waiting(2, 1), 1);
        check.due("nothing has arrived untold", x.seen(1, 0), 0);
        check.due("first the commit", x.deliver(0, 1), 5);
        check.due("one commit is there, not two", x.seen(1, 0), 1);
        check.due("the other link has to be told itself", x.waiting(2, 1), 1);
        check.due("the other direction too", x.waiting(1, 0), 0);
        check.due("then the question", x.deliver(0, 1), 1);
        check.due("its answer waits", x.waiting(1, 0), 1);
        check.due("then the second commit", x.deliver(0, 1), 5);
        check.due("both are there", x.seen(1, 0), 2);
        check.due("then none", x.deliver(0, 1), 0);
        check.due("the question of site 2 comes last", x.deliver(2, 1), 1);
        check.due("and has its no", x.deliver(1, 2), 3);
    }
}
