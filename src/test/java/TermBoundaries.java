/** The sentences before COMMITTING: what it is, SITES, OBJECTS, TRANSACTIONS, SEEN, START, WHAT IT READS. */
final class TermBoundaries extends Boundaries {
    TermBoundaries(Check check, Document document) {
        super(check, document);
    }

    @Override
    void all() {
        test("A store at sites far apart, with parallel snapshot isolation: "
            + "a transaction reads what its site had when it began;",
            this::readsWhatItsSiteHad);
        test("what's written at its objects' own site commits at once, other writes ask these sites first;",
            this::ownSiteAtOnce);
        test("sets that only count commit everywhere without asking;", this::setsWithoutAsking);
        test("commits spread from site to site, each behind those that it had seen.", this::eachBehindThoseSeen);
        test("An object is used for at most 512 calls after it has been made; what later calls answer is free.",
            this::lastPromisedCall, this::mostMessages, this::mostHeld);
        test("SITES, 1 to 6, numbered from 0.", this::sitesOneToSix);
        test("OBJECTS, at most 200, numbered from 0:", this::objectsAtMost200);
        test("PLAIN (a long, 0 at first)", this::plainIsALong);
        test("or SET (a count for each int as an element, 0 at first, which may fall below 0);",
            this::setHasACountForEachInt);
        test("each has a HOME, a SITE.", this::eachHasAHome);
        test("TRANSACTIONS, at most 500, numbered from 0, each at a SITE:", this::transactionsAtMost500);
        test("OPEN, then WAITING, COMMITTED, ABORTED.", this::openThenTheOthers);
        test("SEEN of a SITE s: for each SITE t, how many of t's COMMITS (numbered from 1 at each SITE) "
            + "are APPLIED at s.",
            this::seenCountsApplied);
        test("A TRANSACTION's START is SEEN of its SITE when it begins;", this::startIsSeenWhenItBegins);
        test("COMMIT k of t is VISIBLE to it if k isn't above t's number in START.", this::visibleUpToItsStart);
        test("WHAT IT READS: of a PLAIN OBJECT what it has written itself last;", this::ownWriteLast);
        test("else what the latest of the COMMITS VISIBLE to it that wrote it has written "
            + "(of two such one is VISIBLE to the other one's TRANSACTION, which is the later);",
            this::latestVisible);
        test("else 0.", this::elseZero);
        test("Of a SET: an element's count is how often COMMITS VISIBLE to it, and itself, have added it, "
            + "less how often they have taken it.",
            this::countsOfASet);
    }

    private void readsWhatItsSiteHad() {
        FarStore x = Check.store(2, 0);
        int before = x.begin(0);
        int first = Check.committed(x, 0, 0);
        int behind = x.begin(0);
        Check.committed(x, 0, 0);
        check.due("begun before both", x.read(before, 0), 0);
        check.due("begun between them", x.read(behind, 0), 10 + first);
        check.due("begun where none has arrived", x.read(x.begin(1), 0), 0);
    }

    private void ownSiteAtOnce() {
        FarStore x = Check.store(2, 0, 1);
        check.due("its own site's object", x.commit(Check.writer(x, 0, 0)), 1);
        check.due("the other site's object", x.commit(Check.writer(x, 0, 1)), 3);
        check.due("both", x.commit(Check.writer(x, 0, 0, 1)), 3);
    }

    private void setsWithoutAsking() {
        FarStore x = Check.store(6);
        int set = x.object(5, true);
        for (int s = 0; s < 6; s++) {
            int t = x.begin(s);
            x.change(t, set, 1, true);
            check.due("at site " + s, x.commit(t), 1);
        }
    }

    private void eachBehindThoseSeen() {
        FarStore x = Check.store(3);
        int set = x.object(0, true);
        Check.adder(x, 0, set, 1);
        x.deliver(0, 1);
        Check.adder(x, 1, set, 2);
        x.deliver(1, 2);
        check.due("it doesn't overtake what it had seen", x.count(x.begin(2), set, 2), 0);
        x.deliver(0, 2);
        check.due("behind what it had seen", x.count(x.begin(2), set, 2), 1);
    }

    private void lastPromisedCall() {
        FarStore same = Check.store(1);
        FarStore apart = Check.store(1);
        same.object(0, true);
        apart.object(0, true);
        same.begin(0);
        apart.begin(0);
        for (int call = 4; call <= 511; call++) {
            same.change(0, 0, 7, false);
            apart.change(0, 0, -call, true);
        }
        check.due("call 512 counts all that was taken", same.count(0, 0, 7), -508);
        check.due("call 512 finds the last of all elements", apart.element(0, 0, 507), -4);
    }

    /** Not above 512 calls, and as many messages as these can leave waiting. */
    private void mostMessages() {
        FarStore x = Check.store(6);
        int set = x.object(5, true);
        for (int i = 0; i < 169; i++) {
            Check.adder(x, i % 6, set, i);
        }
        check.due("five messages of each commit wait", x.count(5), 5 * 169);
        check.due("from site 0 to site 5", x.waiting(0, 5), 29);
        check.due("the commits in all", x.count(3), 169);
    }

    /** Not above 512 calls, and about as many held commits as these can make. */
    private void mostHeld() {
        FarStore x = Check.store(3);
        int set = x.object(0, true);
        Check.adder(x, 0, set, 1);
        x.deliver(0, 1);
        for (int i = 0; i < 120; i++) {
            Check.adder(x, 1, set, 1);
            x.deliver(1, 2);
        }
        check.due("all are held", x.count(4), 120);
        check.due("what they saw arrives", x.deliver(0, 2), 5);
        check.due("none is held", x.count(4), 0);
        check.due("all are applied", x.seen(2, 1), 120);
        check.due("all are counted", x.count(x.begin(2), set, 1), 121);
    }

    private void sitesOneToSix() {
        for (int n = 1; n <= 6; n++) {
            FarStore x = Check.store(n);
            int behind = n;
            for (int s = 0; s < n; s++) {
                check.due("site " + s + " of " + n + " has an object", x.object(s, false), s);
                check.due("site " + s + " of " + n + " has a transaction", x.begin(s), s);
            }
            check.bad("no site behind the last of " + n, () -> x.begin(behind));
            check.bad("no site before the first of " + n, () -> x.begin(-1));
        }
    }

    private void objectsAtMost200() {
        FarStore x = Check.store(2);
        for (int i = 0; i < 200; i++) {
            check.due("its number", x.object(i % 2, i % 3 == 0), i);
        }
        check.refused("a plain one more", () -> x.object(0, false));
        check.refused("a set more", () -> x.object(1, true));
        check.due("object 0 is the first", x.locked(0), -1);
        check.due("object 199 is the last", x.locked(199), -1);
        check.bad("there's no object 200", () -> x.locked(200));
        int t = Check.writer(x, 1, 199);
        check.due("the last one is of use", x.read(t, 199), 10 + t);
        check.due("the last one commits", x.commit(t), 1);
    }

    private void plainIsALong() {
        FarStore x = Check.store(1);
        x.object(0, false);
        check.due("at first", x.read(x.begin(0), 0), 0);
        long[] values = {Long.MAX_VALUE, Long.MIN_VALUE, 1L << 31, 1L << 32, -(1L << 31) - 1, -1, 0};
        for (long value : values) {
            int t = x.begin(0);
            x.write(t, 0, value);
            check.due("in the transaction itself", x.read(t, 0), value);
            x.commit(t);
            check.due("in the next one", x.read(x.begin(0), 0), value);
        }
    }

    private void setHasACountForEachInt() {
        FarStore x = Check.store(1);
        x.object(0, true);
        int[] elements = {Integer.MIN_VALUE, -1, 0, 1, Integer.MAX_VALUE};
        int t = x.begin(0);
        for (int element : elements) {
            check.due("at first, of " + element, x.count(t, 0, element), 0);
            x.change(t, 0, element, false);
            check.due("below 0, of " + element, x.count(t, 0, element), -1);
            x.change(t, 0, element, false);
        }
        x.commit(t);
        int next = x.begin(0);
        for (int i = 0; i < elements.length; i++) {
            check.due("below 0 in the next one", x.count(next, 0, elements[i]), -2);
            check.due("an element though it's below 0", x.element(next, 0, i), elements[i]);
        }
        x.change(next, 0, 0, true);
        check.due("up again, still below 0", x.count(next, 0, 0), -1);
    }

    private void eachHasAHome() {
        FarStore x = Check.store(6, 0, 1, 2, 3, 4, 5);
        for (int home = 0; home < 6; home++) {
            int far = (home + 1) % 6;
            check.due("at its home " + home, x.commit(Check.writer(x, home, home)), 1);
            int before = x.waiting(far, home);
            check.due("away from its home " + home, x.commit(Check.writer(x, far, home)), 3);
            check.due("its home " + home + " is asked", x.waiting(far, home), before + 1);
        }
        for (int none : outside(6)) {
            check.bad("home " + none, () -> x.object(none, false));
        }
    }

    private void transactionsAtMost500() {
        FarStore x = Check.store(2, 1);
        for (int i = 0; i < 500; i++) {
            check.due("its number", x.begin(i == 499 ? 1 : 0), i);
        }
        check.refused("one more", () -> x.begin(0));
        check.refused("one more at the other site", () -> x.begin(1));
        check.bad("there's no transaction 500", () -> x.state(500, 0));
        check.due("transaction 0 is the first", x.commit(0), 1);
        x.write(499, 0, 5);
        check.due("the last one is at its own site", x.commit(499), 1);
        check.refused("one that has ended leaves no room", () -> x.begin(0));
    }

    private void openThenTheOthers() {
        FarStore x = Check.store(2, 0, 1);
        int first = Check.writer(x, 0, 1);
        int second = Check.writer(x, 1, 1);
        int third = x.begin(1);
        check.states(x, "open", first, 0);
        x.commit(first);
        check.states(x, "waiting", first, 3);
        x.deliver(0, 1);
        x.deliver(1, 0);
        check.states(x, "committed behind waiting", first, 1);
        x.commit(second);
        check.states(x, "aborted behind open", second, 2);
        x.commit(third);
        check.states(x, "committed behind open", third, 1);
        int fourth = Check.committed(x, 1, 0);
        Check.committed(x, 0, 0);
        Check.deliverAll(x);
        check.states(x, "aborted behind waiting", fourth, 2);
    }

    private void seenCountsApplied() {
        FarStore x = Check.store(3);
        int set = x.object(2, true);
        check.states(x, "the first of site 0", Check.adder(x, 0, set, 1), 1, 1);
        check.states(x, "the first of site 1", Check.adder(x, 1, set, 1), 1, 1);
        check.states(x, "the second of site 1", Check.adder(x, 1, set, 1), 1, 2);
        x.deliver(1, 0);
        x.deliver(1, 2);
        x.deliver(1, 2);
        int[][] want = {{1, 1, 0}, {0, 2, 0}, {0, 2, 0}};
        for (int s = 0; s < 3; s++) {
            for (int of = 0; of < 3; of++) {
                check.due("seen(" + s + ", " + of + ")", x.seen(s, of), want[s][of]);
            }
        }
        Check.adder(x, 0, set, 1);
        x.deliver(0, 1);
        Check.adder(x, 1, set, 1);
        x.deliver(1, 2);
        check.due("one that's held isn't seen", x.seen(2, 1), 2);
    }

    private void startIsSeenWhenItBegins() {
        FarStore x = Check.store(2);
        int set = x.object(0, true);
        Check.adder(x, 1, set, 1);
        int before = x.begin(0);
        x.deliver(1, 0);
        int behind = x.begin(0);
        Check.adder(x, 0, set, 1);
        check.due("an arrival behind its begin is none of its", x.count(before, set, 1), 0);
        check.due("a commit of its own site behind its begin neither", x.count(behind, set, 1), 1);
        x.change(before, set, 1, true);
        check.due("nor when it has changed the same", x.count(before, set, 1), 1);
        check.due("begun behind all", x.count(x.begin(0), set, 1), 2);
    }

    private void visibleUpToItsStart() {
        FarStore x = Check.store(3, 1, 2);
        for (int k = 1; k <= 3; k++) {
            Check.committed(x, 1, 0);
        }
        int fourth = Check.committed(x, 2, 1);
        for (int k = 0; k <= 3; k++) {
            int t = x.begin(0);
            check.due("with " + k + " of site 1 in its start", x.read(t, 0), k == 0 ? 0 : 10 + k - 1);
            check.due("none of site 2 in its start", x.read(t, 1), 0);
            x.deliver(1, 0);
            check.due("the next number is above it", x.read(t, 0), k == 0 ? 0 : 10 + k - 1);
        }
        x.deliver(2, 0);
        check.due("number 1 of site 2 is in its start", x.read(x.begin(0), 1), 10 + fourth);
    }

    private void ownWriteLast() {
        FarStore x = Check.store(1, 0, 0);
        Check.committed(x, 0, 0);
        int t = x.begin(0);
        x.write(t, 0, 5);
        x.write(t, 1, 6);
        x.write(t, 0, 7);
        check.due("the second of two", x.read(t, 0), 7);
        x.write(t, 0, 0);
        check.due("0 over what's visible", x.read(t, 0), 0);
        check.due("the other object", x.read(t, 1), 6);
        int other = x.begin(0);
        check.due("another transaction's isn't its own", x.read(other, 1), 0);
        x.commit(t);
        check.due("the last is what's committed", x.read(x.begin(0), 0), 0);
    }

    private void latestVisible() {
        FarStore x = Check.store(2, 1, 1);
        for (int i = 0; i < 3; i++) {
            Check.committed(x, 1, 0);
            x.deliver(1, 0);
        }
        int late = Check.committed(x, 0, 0);
        Check.deliverAll(x);
        check.states(x, "a small number, but the latest", late, 1, 1, 2);
        check.due("the latest at its own site", x.read(x.begin(0), 0), 10 + late);
        check.due("the latest at the other site", x.read(x.begin(1), 0), 10 + late);
        int reader = x.begin(1);
        int other = Check.committed(x, 1, 1);
        check.due("a later one that wrote another object", x.read(x.begin(1), 0), 10 + late);
        int last = Check.committed(x, 1, 0);
        check.due("later again", x.read(x.begin(1), 0), 10 + last);
        check.due("a later one that isn't visible", x.read(reader, 0), 10 + late);
        check.due("the other object's latest", x.read(x.begin(1), 1), 10 + other);
    }

    private void elseZero() {
        FarStore x = Check.store(2, 0, 0);
        int before = x.begin(0);
        Check.committed(x, 0, 0);
        check.due("nobody wrote it", x.read(x.begin(0), 1), 0);
        check.due("who wrote it isn't visible", x.read(before, 0), 0);
        int aborted = Check.writer(x, 0, 1);
        x.abort(aborted);
        check.due("who wrote it is aborted", x.read(x.begin(0), 1), 0);
        Check.writer(x, 0, 1);
        check.due("who wrote it is open", x.read(x.begin(0), 1), 0);
        Check.committed(x, 1, 1);
        check.due("who wrote it is waiting", x.read(x.begin(1), 1), 0);
    }

    private void countsOfASet() {
        FarStore x = Check.store(2);
        int set = x.object(0, true);
        int twin = x.object(0, true);
        Check.adder(x, 0, set, 1);
        Check.adder(x, 1, set, 1);
        x.deliver(1, 0);
        int t = x.begin(0);
        Check.adder(x, 1, set, 1);
        x.deliver(1, 0);
        check.due("two that are visible, one that isn't", x.count(t, set, 1), 2);
        x.change(t, set, 1, true);
        check.due("with its own", x.count(t, set, 1), 3);
        for (int i = 0; i < 4; i++) {
            x.change(t, set, 1, false);
        }
        check.due("less what it has taken", x.count(t, set, 1), -1);
        check.due("another element", x.count(t, set, 2), 0);
        check.due("another set", x.count(t, twin, 1), 0);
        x.commit(t);
        check.due("all together", x.count(x.begin(0), set, 1), 0);
        int aborted = x.begin(0);
        x.change(aborted, set, 1, true);
        x.abort(aborted);
        check.due("not what an aborted one did", x.count(x.begin(0), set, 1), 0);
        int plain = x.object(1, false);
        int asking = Check.writer(x, 0, plain);
        x.change(asking, set, 1, true);
        x.commit(asking);
        check.due("not what one that's waiting did", x.count(x.begin(0), set, 1), 0);
    }
}
