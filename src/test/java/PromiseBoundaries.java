/** The sentences of promises 1 to 17. */
final class PromiseBoundaries extends Boundaries {
    PromiseBoundaries(Check check, Document document) {
        super(check, document);
    }

    @Override
    void all() {
        test("No SITES.", this::aNewObject);
        test("There are n SITES (1 .. 6).", this::sites);
        test("An OBJECT more, a SET or PLAIN. Answers its number.", this::object);
        test("A TRANSACTION more, at a SITE. Answers its number.", this::begin);
        test("What TRANSACTION t reads of a PLAIN OBJECT (SETS: bad).", this::read);
        test("It writes one (SETS: bad).", this::write);
        test("It adds an element to a SET (PLAIN: bad), or takes it.", this::change);
        test("An element's count, as it reads (PLAIN: bad).", this::countOfAnElement);
        test("The element number i, from 0, by their order as ints, "
            + "of those whose count, as it reads, isn't 0 (PLAIN: bad).",
            this::element);
        test("Not there (also for i below 0): missing.", this::elementNotThere);
        test("It's to commit. Answers what it is then: 1 COMMITTED, 2 ABORTED, 3 WAITING.", this::commit);
        test("It's ABORTED.", this::abort);
        test("The MESSAGE that waits longest from a SITE to another one (the same: bad) arrives.", this::deliver);
        test("Answers its sort, 1 .. 5; 0: none waits.", this::deliverNone);
        test("How many MESSAGES wait from a SITE to another one (the same: bad).", this::waiting);
        test("SEEN of a SITE for one.", this::seen);
        test("Of TRANSACTION t: 0 OPEN, 1 COMMITTED, 2 ABORTED, 3 WAITING (what 0);", this::stateOfPhase);
        test("its number at its SITE, 0 for none (1);", this::stateOfNumber);
        test("at how many SITES its COMMIT is APPLIED (2);", this::stateOfApplied);
        test("how many HOMES have yet to say yes, 0 if it isn't WAITING (3);", this::stateOfYesesDue);
        test("another what: bad.", this::stateOfAnother);
        test("The TRANSACTION that has LOCKED an OBJECT at its HOME; -1 for none.", this::locked);
        test("SITES (0), OBJECTS (1), TRANSACTIONS (2), COMMITS in all, with a number (3), "
            + "COMMITS HELD at all SITES (4), MESSAGES waiting in all (5); else -1.",
            this::countOfWhat);
    }

    private void aNewObject() {
        FarStore used = Check.store(2, 0);
        Check.committed(used, 0, 0);
        FarStore x = new FarStore();
        for (int what = 0; what <= 5; what++) {
            check.due("count(" + what + ")", x.count(what), 0);
        }
        check.bad("no site 0", () -> x.seen(0, 0));
        check.bad("no object 0", () -> x.locked(0));
        check.bad("no transaction 0", () -> x.state(0, 0));
        x.sites(1);
        check.due("one store's sites are not another's", used.count(0), 2);
        check.due("its first object", x.object(0, false), 0);
        check.due("its first transaction", x.begin(0), 0);
        check.due("it reads nothing of another store", x.read(0, 0), 0);
    }

    private void sites() {
        for (int n : new int[] {1, 6}) {
            FarStore x = new FarStore();
            check.badCall("one too few", () -> x.sites(0));
            check.badCall("one too many", () -> x.sites(7));
            check.badCall("below 0", () -> x.sites(-1));
            check.badCall("far too few", () -> x.sites(Integer.MIN_VALUE));
            check.badCall("far too many", () -> x.sites(Integer.MAX_VALUE));
            check.due("none of these is told", x.count(0), 0);
            x.sites(n);
            check.due("as many as told", x.count(0), n);
            check.due("the last one", x.begin(n - 1), 0);
        }
    }

    private void object() {
        FarStore x = Check.store(1);
        int early = x.begin(0);
        check.due("a plain one", x.object(0, false), 0);
        check.due("a set", x.object(0, true), 1);
        check.due("two in all", x.count(1), 2);
        check.due("made behind a transaction's begin, read by it", x.read(early, 0), 0);
        check.due("made behind a transaction's begin, counted by it", x.count(early, 1, 7), 0);
        x.write(early, 0, 5);
        x.change(early, 1, 7, true);
        check.due("and committed by it", x.commit(early), 1);
    }

    private void begin() {
        FarStore x = Check.store(2, 1);
        check.due("the first", x.begin(0), 0);
        x.abort(0);
        check.due("no number is used twice", x.begin(1), 1);
        check.due("two in all", x.count(2), 2);
        check.states(x, "it's open", 1, 0, 0, 0, 0);
        x.write(1, 0, 5);
        check.due("it's at its site", x.commit(1), 1);
    }

    private void read() {
        FarStore x = Check.store(1, 0);
        int set = x.object(0, true);
        int writer = Check.committed(x, 0, 0);
        int t = x.begin(0);
        check.due("a plain one", x.read(t, 0), 10 + writer);
        check.due("the same again", x.read(t, 0), 10 + writer);
        check.bad("a set", () -> x.read(t, set));
        x.change(t, set, 7, true);
        check.bad("a set that it has changed", () -> x.read(t, set));
    }

    private void write() {
        FarStore x = Check.store(1, 0);
        int set = x.object(0, true);
        int t = x.begin(0);
        int other = x.begin(0);
        x.write(t, 0, -7);
        check.due("it has written", x.read(t, 0), -7);
        check.due("another one has not", x.read(other, 0), 0);
        check.badCall("a set", () -> x.write(t, set, 1));
        check.missing("the set has nothing", () -> x.element(t, set, 0));
    }

    private void change() {
        FarStore x = Check.store(1, 0);
        int set = x.object(0, true);
        int t = x.begin(0);
        x.change(t, set, 7, true);
        check.due("added", x.count(t, set, 7), 1);
        x.change(t, set, 7, false);
        check.due("taken", x.count(t, set, 7), 0);
        x.change(t, set, 7, false);
        check.due("taken though there's none", x.count(t, set, 7), -1);
        check.badCall("a plain one to add to", () -> x.change(t, 0, 7, true));
        check.badCall("a plain one to take from", () -> x.change(t, 0, 7, false));
        check.due("the plain one has nothing", x.read(t, 0), 0);
    }

    private void countOfAnElement() {
        FarStore x = Check.store(1, 0);
        int set = x.object(0, true);
        int before = x.begin(0);
        Check.adder(x, 0, set, 7);
        int behind = x.begin(0);
        check.due("not as it's now", x.count(before, set, 7), 0);
        check.due("as it was when it began", x.count(behind, set, 7), 1);
        check.due("an element never heard of", x.count(behind, set, Integer.MIN_VALUE), 0);
        check.bad("a plain one", () -> x.count(behind, 0, 7));
    }

    private void element() {
        FarStore x = Check.store(1, 0);
        int set = x.object(0, true);
        int twin = x.object(0, true);
        int before = x.begin(0);
        int t = x.begin(0);
        int[] added = {5, Integer.MAX_VALUE, -1, Integer.MIN_VALUE, 0, -40000, 40000};
        int[] ordered = {Integer.MIN_VALUE, -40000, -1, 0, 5, 40000, Integer.MAX_VALUE};
        for (int element : added) {
            x.change(t, set, element, element % 2 == 0);
        }
        x.change(t, twin, 6, true);
        for (int i = 0; i < ordered.length; i++) {
            check.due("its own, number " + i, x.element(t, set, i), ordered[i]);
        }
        x.commit(t);
        int next = x.begin(0);
        x.change(next, set, -1, true);
        x.change(next, set, Integer.MIN_VALUE, true);
        x.change(next, set, 9, true);
        int[] left = {Integer.MIN_VALUE, -40000, 0, 5, 9, 40000, Integer.MAX_VALUE};
        for (int i = 0; i < left.length; i++) {
            check.due("without the one whose count is 0, number " + i, x.element(next, set, i), left[i]);
        }
        check.missing("not what others did behind its begin", () -> x.element(before, set, 0));
        check.bad("a plain one", () -> x.element(next, 0, 0));
    }

    private void elementNotThere() {
        FarStore x = Check.store(1);
        int set = x.object(0, true);
        int t = x.begin(0);
        for (int i : new int[] {0, 1, -1, Integer.MIN_VALUE, Integer.MAX_VALUE}) {
            check.missing("of none, number " + i, () -> x.element(t, set, i));
        }
        x.change(t, set, 7, true);
        x.change(t, set, 8, true);
        check.due("the last of two", x.element(t, set, 1), 8);
        for (int i : new int[] {2, 3, -1, -2, Integer.MIN_VALUE, Integer.MAX_VALUE}) {
            check.missing("of two, number " + i, () -> x.element(t, set, i));
        }
        x.change(t, set, 7, false);
        check.missing("of one, as the other's count is 0", () -> x.element(t, set, 1));
        x.change(t, set, 8, false);
        check.missing("of none, as both counts are 0", () -> x.element(t, set, 0));
    }

    private void commit() {
        FarStore x = Check.store(2, 0, 1);
        int late = Check.writer(x, 0, 0);
        int lateToo = Check.writer(x, 0, 1, 0);
        check.due("nothing to commit", x.commit(x.begin(0)), 1);
        check.due("committed", x.commit(Check.writer(x, 0, 0)), 1);
        check.due("aborted", x.commit(late), 2);
        check.due("aborted before it asks", x.commit(lateToo), 2);
        int t = Check.writer(x, 0, 0, 1);
        check.due("waiting", x.commit(t), 3);
        check.states(x, "as it answered", t, 3);
        check.states(x, "as it answered", late, 2);
    }

    private void abort() {
        FarStore x = Check.store(2, 0, 1);
        int set = x.object(0, true);
        int t = Check.writer(x, 0, 0, 1);
        x.change(t, set, 7, true);
        x.abort(t);
        check.states(x, "aborted", t, 2, 0, 0, 0);
        check.due("no message", x.count(5), 0);
        check.due("no commit", x.count(3), 0);
        check.locks(x, "no lock", -1, -1, -1);
        int next = x.begin(0);
        check.due("nobody reads what it wrote", x.read(next, 0), 0);
        check.due("nobody counts what it added", x.count(next, set, 7), 0);
        x.write(next, 0, 5);
        check.due("it's nobody's conflict", x.commit(next), 1);
        int empty = x.begin(1);
        x.abort(empty);
        check.states(x, "one that has done nothing", empty, 2, 0, 0, 0);
    }

    private void deliver() {
        for (int n = 1; n <= 6; n++) {
            FarStore x = Check.store(n);
            for (int s = 0; s < n; s++) {
                int same = s;
                check.bad("from " + s + " to itself", () -> x.deliver(same, same));
            }
        }
        FarStore x = Check.store(2, 0, 1);
        Check.committed(x, 0, 1);
        Check.committed(x, 0, 0);
        check.bad("from 0 to itself, while two wait", () -> x.deliver(0, 0));
        check.due("the one that waits longest", x.deliver(0, 1), 1);
        check.due("the next", x.deliver(0, 1), 5);
        check.due("both have arrived", x.waiting(0, 1), 0);
    }

    private void deliverNone() {
        FarStore x = Check.store(3, 1, 2);
        check.due("none waits", x.deliver(0, 1), 0);
        Check.committed(x, 2, 1);
        Check.committed(x, 0, 0, 1);
        check.due("none waits from this one, though for this one", x.deliver(1, 0), 0);
        check.due("a question", x.deliver(0, 1), 1);
        check.due("a question", x.deliver(0, 2), 1);
        check.due("yes", x.deliver(1, 0), 2);
        check.due("the commit", x.deliver(2, 0), 5);
        check.due("no", x.deliver(2, 0), 3);
        check.due("unlock", x.deliver(0, 1), 4);
        check.due("none waits any more", x.deliver(0, 1), 0);
        String before = Check.picture(x);
        check.due("none, again", x.deliver(0, 1), 0);
        check.same("nothing changes when none waits", Check.picture(x), before);
    }

    private void waiting() {
        for (int n = 1; n <= 6; n++) {
            FarStore x = Check.store(n);
            for (int s = 0; s < n; s++) {
                int same = s;
                check.bad("from " + s + " to itself", () -> x.waiting(same, same));
            }
        }
        FarStore x = Check.store(3, 0);
        check.due("none at first", x.waiting(0, 1), 0);
        Check.committed(x, 0, 0);
        Check.committed(x, 0, 0);
        check.due("two", x.waiting(0, 1), 2);
        check.due("none the other way", x.waiting(1, 0), 0);
        check.due("none from another site", x.waiting(2, 1), 0);
        x.deliver(0, 1);
        check.due("one has arrived", x.waiting(0, 1), 1);
        check.due("none of those to another site has", x.waiting(0, 2), 2);
    }

    private void seen() {
        FarStore x = Check.store(2, 0);
        check.due("none at first", x.seen(0, 0), 0);
        Check.committed(x, 0, 0);
        check.due("of itself", x.seen(0, 0), 1);
        check.due("of the other one, not arrived", x.seen(1, 0), 0);
        x.deliver(0, 1);
        check.due("of the other one, arrived", x.seen(1, 0), 1);
        check.due("the other way round", x.seen(0, 1), 0);
        check.bad("of none", () -> x.seen(0, 2));
        check.bad("of none before the first", () -> x.seen(0, -1));
        check.bad("at none", () -> x.seen(2, 0));
        check.bad("at none before the first", () -> x.seen(-1, 0));
    }

    private void stateOfPhase() {
        FarStore x = Check.store(2, 0, 1);
        int open = x.begin(0);
        int given = x.begin(0);
        x.abort(given);
        int done = x.begin(0);
        x.commit(done);
        int asking = Check.committed(x, 0, 1);
        check.due("open", x.state(open, 0), 0);
        check.due("committed", x.state(done, 0), 1);
        check.due("aborted", x.state(given, 0), 2);
        check.due("waiting", x.state(asking, 0), 3);
        check.bad("no such transaction", () -> x.state(4, 0));
    }

    private void stateOfNumber() {
        FarStore x = Check.store(2, 0, 1);
        int late = Check.writer(x, 0, 0);
        check.due("open", x.state(late, 1), 0);
        Check.committed(x, 1, 1);
        x.deliver(1, 0);
        int first = Check.committed(x, 0, 0);
        check.due("the first of site 0", x.state(first, 1), 1);
        x.commit(late);
        check.due("aborted", x.state(late, 1), 0);
        int empty = x.begin(0);
        x.commit(empty);
        check.due("committed without one", x.state(empty, 1), 0);
        int asking = Check.committed(x, 0, 1);
        check.due("waiting", x.state(asking, 1), 0);
        Check.deliverAll(x);
        check.due("the second of site 0", x.state(asking, 1), 2);
    }

    private void stateOfApplied() {
        FarStore x = Check.store(6, 3, 0);
        int t = Check.writer(x, 3, 0);
        check.due("open", x.state(t, 2), 0);
        x.commit(t);
        int[] others = {5, 0, 1, 4, 2};
        for (int i = 0; i < others.length; i++) {
            check.due("its own and " + i + " more", x.state(t, 2), 1 + i);
            x.deliver(3, others[i]);
        }
        check.due("all six", x.state(t, 2), 6);
        int asking = Check.committed(x, 3, 1);
        check.due("waiting", x.state(asking, 2), 0);
        int empty = x.begin(3);
        x.commit(empty);
        check.due("committed without a number", x.state(empty, 2), 0);
        int given = Check.writer(x, 3, 0);
        x.abort(given);
        check.due("aborted", x.state(given, 2), 0);
        Check.committed(x, 3, 0);
        check.due("the one before it", x.state(t, 2), 6);
    }

    private void stateOfYesesDue() {
        FarStore x = Check.store(4, 1, 1, 2, 3);
        int t = Check.writer(x, 0, 0, 1, 2, 3);
        check.due("open", x.state(t, 3), 0);
        x.commit(t);
        check.due("homes, not objects", x.state(t, 3), 3);
        x.deliver(0, 2);
        check.due("a yes on its way isn't said", x.state(t, 3), 3);
        x.deliver(2, 0);
        check.due("one has said yes", x.state(t, 3), 2);
        Check.committed(x, 3, 3);
        x.deliver(0, 3);
        x.deliver(3, 0);
        check.due("a no on its way changes nothing", x.state(t, 3), 2);
        check.due("no", x.deliver(3, 0), 3);
        check.due("aborted, though one has never said yes", x.state(t, 3), 0);
        int next = Check.committed(x, 2, 3);
        check.due("the next waits for one", x.state(next, 3), 1);
        Check.deliverAll(x);
        check.states(x, "it has its no", next, 2, 0, 0, 0);
        int last = Check.committed(x, 2, 3);
        Check.deliverAll(x);
        check.states(x, "it has its yes", last, 1, 1, 4, 0);
    }

    private void stateOfAnother() {
        FarStore x = Check.store(1);
        x.begin(0);
        for (int what : new int[] {-1, 4, 5, Integer.MIN_VALUE, Integer.MAX_VALUE}) {
            check.bad("of an open one: " + what, () -> x.state(0, what));
        }
        check.due("the last that's told", x.state(0, 3), 0);
        x.commit(0);
        check.bad("of a committed one: 4", () -> x.state(0, 4));
    }

    private void locked() {
        FarStore x = Check.store(2, 0, 1);
        int set = x.object(0, true);
        check.locks(x, "none at first", -1, -1, -1);
        int first = Check.writer(x, 0, 0, 1);
        x.change(first, set, 7, true);
        check.due("transaction 0", first, 0);
        check.locks(x, "one that has only written has locked nothing", -1, -1, -1);
        x.commit(first);
        check.locks(x, "transaction 0 has locked its own site's", 0, -1, -1);
        x.deliver(0, 1);
        check.locks(x, "the other home's too, a set never", 0, 0, -1);
        Check.deliverAll(x);
        check.locks(x, "none any more", -1, -1, -1);
        int second = Check.committed(x, 1, 0);
        x.deliver(1, 0);
        check.locks(x, "another transaction", second, -1, -1);
        check.bad("no such object", () -> x.locked(3));
    }

    private void countOfWhat() {
        FarStore x = Check.store(5);
        for (int i = 0; i < 4; i++) {
            x.object(0, true);
        }
        Check.adder(x, 0, 0, 1);
        x.deliver(0, 1);
        Check.adder(x, 1, 0, 1);
        x.deliver(1, 2);
        x.deliver(1, 3);
        x.commit(x.begin(2));
        int[] want = {5, 4, 3, 2, 2, 5};
        for (int what = 0; what <= 5; what++) {
            check.due("count(" + what + ")", x.count(what), want[what]);
        }
        for (int what : new int[] {-1, 6, 7, Integer.MIN_VALUE, Integer.MAX_VALUE}) {
            check.due("else: " + what, x.count(what), -1);
            check.due("else, in a new store: " + what, new FarStore().count(what), -1);
        }
    }
}
