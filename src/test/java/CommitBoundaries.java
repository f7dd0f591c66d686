/** COMMITTING: CONFLICT, and the cases None, All and It COMMITS. */
final class CommitBoundaries extends Boundaries {
    CommitBoundaries(Check check, Document document) {
        super(check, document);
    }

    @Override
    void all() {
        test("COMMITTING. CONFLICT of an OBJECT at its HOME: "
            + "a COMMIT that's APPLIED there but not VISIBLE to the TRANSACTION wrote it,",
            this::conflictWithACommit);
        test("or another TRANSACTION has LOCKED it.", this::conflictWithALock);
        test("Of PLAIN OBJECTS written: None: if it has added to or taken from SETS "
            + "(also as much as it added), it COMMITS;",
            this::noneButSets);
        test("else it's COMMITTED, without a number.", this::noneAndNothing);
        test("All have its SITE as HOME: with a CONFLICT it's ABORTED, else it COMMITS.",
            this::allAtItsSite, this::allAtItsSiteWithAConflict, this::whatItReadsWritten);
        test("It COMMITS: it's COMMITTED, its SITE's next number is its own, APPLIED there;", this::itCommits);
        test("and MESSAGE 5 (the COMMIT) goes to each other SITE, by their numbers.", this::messageFiveToEachOther);
    }

    private void conflictWithACommit() {
        FarStore x = Check.store(2, 0, 0);
        int blind = Check.writer(x, 0, 0);
        int blindToo = Check.writer(x, 0, 1);
        int far = Check.writer(x, 1, 0);
        int farToo = Check.writer(x, 1, 1);
        Check.committed(x, 0, 0);
        int second = Check.writer(x, 0, 0);
        check.due("visible", x.commit(second), 1);
        check.due("not visible", x.commit(blind), 2);
        check.due("not visible, but it wrote another object", x.commit(blindToo), 1);
        check.due("from afar", x.commit(far), 3);
        x.deliver(1, 0);
        Check.deliverAll(x);
        check.states(x, "applied at home though not where it's written", far, 2);
        x.commit(farToo);
        Check.deliverAll(x);
        check.states(x, "applied at both sites, but not visible", farToo, 2);
        int seer = Check.committed(x, 1, 0, 1);
        Check.deliverAll(x);
        check.states(x, "from afar, visible", seer, 1);
    }

    private void conflictWithALock() {
        FarStore x = Check.store(3, 0, 0, 1);
        int holder = Check.committed(x, 2, 0);
        check.due("asked for, but not locked yet", x.commit(Check.writer(x, 0, 0)), 1);
        Check.deliverAll(x);
        check.states(x, "it came too late", holder, 2);
        int next = Check.committed(x, 2, 0);
        x.deliver(2, 0);
        check.due("locked by one that's waiting", x.commit(Check.writer(x, 0, 0)), 2);
        check.due("another object isn't locked", x.commit(Check.writer(x, 0, 1)), 1);
        check.due("its reader has no conflict", x.commit(x.begin(0)), 1);
        x.deliver(0, 2);
        x.deliver(0, 2);
        check.states(x, "the holder has its yes", next, 1);
        check.due("locked by one that's committed, not arrived", x.commit(Check.writer(x, 0, 0)), 2);
        x.deliver(2, 0);
        check.due("no lock any more", x.commit(Check.writer(x, 0, 0)), 1);
        Check.deliverAll(x);
        int loser = Check.writer(x, 2, 0, 2);
        Check.committed(x, 1, 2);
        x.commit(loser);
        x.deliver(2, 0);
        x.deliver(2, 1);
        x.deliver(1, 2);
        x.deliver(1, 2);
        check.states(x, "the holder has its no", loser, 2);
        check.due("locked by one that's aborted", x.commit(Check.writer(x, 0, 0)), 2);
        x.deliver(2, 0);
        check.due("unlocked", x.commit(Check.writer(x, 0, 0)), 1);
    }

    private void noneButSets() {
        boolean[][] runs = {{true}, {false}, {true, false}, {false, true}, {true, true, false, false}};
        FarStore x = Check.store(2, 0);
        int set = x.object(1, true);
        for (int run = 0; run < runs.length; run++) {
            int t = x.begin(0);
            for (boolean add : runs[run]) {
                x.change(t, set, 7, add);
            }
            check.due("run " + run, x.commit(t), 1);
            check.states(x, "run " + run, t, 1, run + 1, 1, 0);
            check.due("run " + run + ": the message", x.waiting(0, 1), run + 1);
        }
        int blind = x.begin(0);
        x.read(blind, 0);
        x.change(blind, set, 7, true);
        Check.committed(x, 0, 0);
        Check.adder(x, 0, set, 7);
        check.due("what others wrote, added or took is no conflict", x.commit(blind), 1);
        check.due("no set is ever locked", x.locked(set), -1);
    }

    private void noneAndNothing() {
        FarStore x = Check.store(2, 0, 1);
        int set = x.object(0, true);
        int empty = x.begin(0);
        int reader = x.begin(0);
        x.read(reader, 0);
        x.read(reader, 1);
        x.count(reader, set, 7);
        int writer = Check.writer(x, 0, 0, 1);
        x.commit(writer);
        check.due("nothing done", x.commit(empty), 1);
        check.due("only reads and counts, one of it locked", x.commit(reader), 1);
        check.states(x, "nothing done", empty, 1, 0, 0, 0);
        check.states(x, "only reads and counts", reader, 1, 0, 0, 0);
        check.due("no number is used", x.seen(0, 0), 0);
        check.due("no commit", x.count(3), 0);
        check.due("no message but the writer's", x.count(5), 1);
        check.states(x, "the next has number 1", Check.adder(x, 0, set, 7), 1, 1);
    }

    private void allAtItsSite() {
        FarStore x = Check.store(2, 1, 1, 0);
        int set = x.object(0, true);
        int t = Check.writer(x, 1, 0, 1);
        x.change(t, set, 7, true);
        x.read(t, 2);
        check.due("a set's home and what it has only read don't count", x.commit(t), 1);
        check.states(x, "it commits", t, 1, 1, 1, 0);
        check.locks(x, "it needs no locks", -1, -1, -1, -1);
        check.due("it's read", x.read(x.begin(1), 1), 10 + t);
        check.due("its set's change is counted", x.count(x.begin(1), set, 7), 1);
    }

    private void allAtItsSiteWithAConflict() {
        int[][] orders = {{0, 1, 2}, {2, 0, 1}, {1, 2, 0}};
        for (int[] order : orders) {
            FarStore x = Check.store(2, 0, 0, 0);
            int set = x.object(0, true);
            int t = Check.writer(x, 0, order);
            x.change(t, set, 7, true);
            int first = Check.committed(x, 0, 0);
            check.due("a conflict of one of three", x.commit(t), 2);
            check.states(x, "aborted", t, 2, 0, 0, 0);
            check.locks(x, "aborted", -1, -1, -1);
            check.due("only the first's message", x.count(5), 1);
            int reader = x.begin(0);
            check.due("the first is read", x.read(reader, 0), 10 + first);
            check.due("what it wrote is not", x.read(reader, 1), 0);
            check.due("what it added is not counted", x.count(reader, set, 7), 0);
            check.states(x, "no number is used", Check.committed(x, 0, 1), 1, 2);
        }
    }

    /** What's written counts as written, though nothing is changed by it. */
    private void whatItReadsWritten() {
        FarStore x = Check.store(1, 0);
        int first = x.begin(0);
        int second = x.begin(0);
        x.write(first, 0, 0);
        x.write(second, 0, 0);
        check.due("0 is written where 0 is read", x.commit(first), 1);
        check.states(x, "it has a number", first, 1, 1);
        check.due("the same value is a conflict too", x.commit(second), 2);
    }

    private void itCommits() {
        FarStore x = Check.store(2, 0, 1);
        int set = x.object(0, true);
        int asking = Check.committed(x, 0, 1);
        check.states(x, "no number while it's waiting", asking, 3, 0, 0);
        int between = Check.adder(x, 0, set, 7);
        check.states(x, "the first that commits", between, 1, 1, 1);
        check.due("applied there", x.seen(0, 0), 1);
        Check.adder(x, 1, set, 7);
        x.deliver(0, 1);
        x.deliver(1, 0);
        x.deliver(1, 0);
        check.states(x, "the next number of its own site", asking, 1, 2, 1);
        check.due("applied there", x.seen(0, 0), 2);
        check.due("not applied elsewhere", x.seen(1, 0), 0);
        check.due("three in all", x.count(3), 3);
        check.due("it's read there at once", x.read(x.begin(0), 1), 10 + asking);
        check.due("it's not read elsewhere", x.read(x.begin(1), 1), 0);
    }

    private void messageFiveToEachOther() {
        for (int n = 1; n <= 6; n++) {
            FarStore x = Check.store(n, n - 1);
            Check.committed(x, n - 1, 0);
            check.due("one to each other of " + n, x.count(5), n - 1);
            for (int to = 0; to < n - 1; to++) {
                check.due("to site " + to + " of " + n, x.waiting(n - 1, to), 1);
                check.due("it's MESSAGE 5", x.deliver(n - 1, to), 5);
                check.due("it arrives", x.seen(to, n - 1), 1);
            }
        }
    }
}
