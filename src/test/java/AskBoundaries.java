/** COMMITTING: the case Else, from the first question to the last answer. */
final class AskBoundaries extends Boundaries {
    AskBoundaries(Check check, Document document) {
        super(check, document);
    }

    @Override
    void all() {
        test("Else: those with its SITE as HOME: with a CONFLICT it's ABORTED; else they are LOCKED.",
            this::ownObjectsFirst, this::ownConflict);
        test("Then it's WAITING, and asks: a MESSAGE 1 to each other HOME, by the SITES' numbers.",
            this::messageOneToEachHome);
        test("There, when it arrives: with a CONFLICT of one, MESSAGE 3 (no) goes back;", this::conflictThere);
        test("else they are LOCKED, and MESSAGE 2 (yes) goes back.", this::lockedThere);
        test("When all have said yes, it COMMITS.", this::allHaveSaidYes);
        test("When the first no arrives, it's ABORTED: its LOCKS at its SITE go, "
            + "and MESSAGE 4 goes to the others that were asked "
            + "(all but the one whose no it is, by the SITES' numbers, whatever they said or will say);",
            this::firstNo, this::noOfTheOnlyOne);
        test("when that arrives, its LOCKS there go.", this::messageFourArrives, this::messageFourLeavesAnothersLock);
        test("(A yes or no that arrives later is nothing.", this::laterAnswers, this::laterNoLeavesANewLock);
        test("A MESSAGE 1 of one that's ABORTED is answered, and locks, as any other.)",
            this::lateMessageOne, this::lateMessageOneWithAConflict);
    }

    private void ownObjectsFirst() {
        FarStore x = Check.store(3, 0, 0, 1, 0);
        int set = x.object(0, true);
        int t = Check.writer(x, 0, 0, 2, 1);
        x.read(t, 3);
        x.change(t, set, 7, true);
        check.due("it asks", x.commit(t), 3);
        check.locks(x, "its own site's at once, the other one not yet", t, t, -1, -1, -1);
        int none = Check.committed(x, 2, 3);
        check.states(x, "none at its own site", none, 3);
        check.locks(x, "none at its own site", t, t, -1, -1, -1);
    }

    private void ownConflict() {
        FarStore x = Check.store(2, 0, 0, 1, 0);
        int t = Check.writer(x, 0, 2, 1, 0);
        int holder = Check.writer(x, 0, 2, 3);
        Check.committed(x, 0, 0);
        check.due("a conflict of one at its own site", x.commit(t), 2);
        check.states(x, "aborted", t, 2, 0, 0, 0);
        check.locks(x, "none is locked", -1, -1, -1, -1);
        check.due("no home is asked", x.waiting(0, 1), 1);
        x.commit(holder);
        check.due("a lock of one at its own site", x.commit(Check.writer(x, 0, 2, 1, 3)), 2);
        check.locks(x, "the holder's lock alone", -1, -1, -1, holder);
    }

    private void messageOneToEachHome() {
        FarStore x = Check.store(6, 5, 3, 3, 1, 0, 0);
        int set = x.object(2, true);
        int t = Check.writer(x, 1, 0, 1, 2, 3, 1);
        x.change(t, set, 7, true);
        x.read(t, 4);
        check.due("it waits", x.commit(t), 3);
        int[] want = {0, 0, 0, 1, 0, 1};
        for (int to = 0; to < 6; to++) {
            if (to != 1) {
                check.due("questions to site " + to, x.waiting(1, to), want[to]);
                check.due("their sort to site " + to, x.deliver(1, to), want[to]);
            }
        }
        check.states(x, "it waits", t, 3, 0, 0, 2);
    }

    private void conflictThere() {
        FarStore x = Check.store(3, 1, 1, 1);
        int late = Check.writer(x, 0, 1, 0);
        int lateToo = Check.writer(x, 2, 2, 1);
        x.commit(late);
        Check.committed(x, 1, 0);
        check.due("it arrives behind a commit", x.deliver(0, 1), 1);
        check.locks(x, "with a conflict of one none is locked", -1, -1, -1);
        check.due("the commit and the answer", x.waiting(1, 0), 2);
        x.deliver(1, 0);
        check.states(x, "the answer has yet to arrive", late, 3);
        check.due("no", x.deliver(1, 0), 3);
        int holder = Check.committed(x, 0, 1);
        x.deliver(0, 1);
        x.commit(lateToo);
        check.due("it arrives behind a lock", x.deliver(2, 1), 1);
        check.locks(x, "the holder's alone", -1, holder, -1);
        x.deliver(1, 2);
        check.due("no to this one too", x.deliver(1, 2), 3);
    }

    private void lockedThere() {
        FarStore x = Check.store(3, 1, 1, 1, 2, 0);
        int t = Check.committed(x, 0, 0, 1, 3);
        check.locks(x, "before it arrives", -1, -1, -1, -1, -1);
        x.deliver(0, 1);
        check.locks(x, "all that it wrote there, and only there", t, t, -1, -1, -1);
        check.due("one answer for both", x.waiting(1, 0), 1);
        check.due("yes", x.deliver(1, 0), 2);
        check.locks(x, "they stay locked", t, t, -1, -1, -1);
        int other = Check.committed(x, 0, 2);
        x.deliver(0, 1);
        check.due("another's lock on another object is no conflict", x.deliver(1, 0), 2);
        check.locks(x, "each its own", t, t, other, -1, -1);
    }

    private void allHaveSaidYes() {
        FarStore x = Check.store(6, 0, 1, 2, 3, 4, 5);
        int set = x.object(1, true);
        int t = Check.writer(x, 3, 5, 4, 3, 2, 1, 0);
        x.change(t, set, 7, true);
        x.commit(t);
        int[] homes = {5, 0, 4, 1, 2};
        for (int home : homes) {
            x.deliver(3, home);
        }
        check.states(x, "all yes are on their way", t, 3, 0, 0, 5);
        for (int i = 0; i < homes.length; i++) {
            check.states(x, i + " have said yes", t, 3, 0, 0, 5 - i);
            check.due("yes of site " + homes[i], x.deliver(homes[i], 3), 2);
        }
        check.states(x, "all have said yes", t, 1, 1, 1, 0);
        check.due("its set's change is counted", x.count(x.begin(3), set, 7), 1);
        check.due("the commit goes to each other site", x.count(5), 5);
        check.locks(x, "only the locks at its own site are gone", t, t, t, -1, t, t);
    }

    private void firstNo() {
        FarStore x = Check.store(6, 0, 1, 2, 3, 4);
        int set = x.object(5, true);
        Check.committed(x, 3, 3);
        Check.committed(x, 4, 4);
        int t = Check.writer(x, 0, 0, 1, 2, 3, 4);
        x.change(t, set, 7, true);
        x.commit(t);
        x.deliver(0, 1);
        x.deliver(1, 0);
        x.deliver(0, 3);
        x.deliver(0, 4);
        x.deliver(3, 0);
        check.states(x, "one yes, a no on its way", t, 3, 0, 0, 3);
        check.locks(x, "locked", t, t, -1, -1, -1);
        check.due("the first no", x.deliver(3, 0), 3);
        check.states(x, "aborted", t, 2, 0, 0, 0);
        check.locks(x, "its lock at its own site is gone", -1, t, -1, -1, -1);
        check.due("to the one that said yes", x.deliver(0, 1), 4);
        check.due("to the one that's yet to be asked, behind the question", x.waiting(0, 2), 2);
        check.due("not to the one whose no it is", x.waiting(0, 3), 0);
        check.due("to the one that will say no", x.deliver(0, 4), 4);
        check.due("not to one that wasn't asked", x.waiting(0, 5), 0);
        check.due("nobody counts what it added", x.count(x.begin(0), set, 7), 0);
        check.due("nobody reads what it wrote", x.read(x.begin(0), 0), 0);
    }

    private void noOfTheOnlyOne() {
        FarStore x = Check.store(2, 0, 1);
        Check.committed(x, 1, 1);
        int t = Check.committed(x, 0, 0, 1);
        x.deliver(0, 1);
        x.deliver(1, 0);
        check.due("the only home says no", x.deliver(1, 0), 3);
        check.states(x, "aborted", t, 2, 0, 0, 0);
        check.locks(x, "no locks", -1, -1);
        check.due("no message to anybody", x.count(5), 0);
    }

    private void messageFourArrives() {
        FarStore x = Check.store(4, 1, 1, 2, 3, 1);
        Check.committed(x, 3, 3);
        int t = Check.committed(x, 0, 0, 1, 2, 3);
        x.deliver(0, 1);
        x.deliver(0, 2);
        x.deliver(0, 3);
        int other = Check.committed(x, 0, 4);
        x.deliver(0, 1);
        x.deliver(3, 0);
        x.deliver(3, 0);
        check.states(x, "aborted", t, 2);
        check.locks(x, "until it arrives", t, t, t, -1, other);
        check.due("it arrives at site 1", x.deliver(0, 1), 4);
        check.locks(x, "both there, not those elsewhere, not another's", -1, -1, t, -1, other);
        check.due("it arrives at site 2", x.deliver(0, 2), 4);
        check.locks(x, "the last", -1, -1, -1, -1, other);
        check.due("nothing goes back", x.waiting(2, 0), 1);
    }

    private void messageFourLeavesAnothersLock() {
        FarStore x = Check.store(4, 1, 2, 2);
        Check.committed(x, 1, 0);
        int holder = Check.committed(x, 3, 1);
        x.deliver(3, 2);
        int t = Check.committed(x, 0, 0, 1, 2);
        x.deliver(0, 1);
        x.deliver(0, 2);
        x.deliver(1, 0);
        x.deliver(1, 0);
        check.states(x, "aborted", t, 2);
        check.due("it arrives where its object is locked by another", x.deliver(0, 2), 4);
        check.locks(x, "another's lock stays", -1, holder, -1);
        check.due("the second no", x.deliver(2, 0), 3);
        check.locks(x, "it still stays", -1, holder, -1);
    }

    private void laterAnswers() {
        FarStore x = Check.store(4, 1, 2, 3);
        Check.committed(x, 1, 0);
        Check.committed(x, 2, 1);
        int t = Check.committed(x, 0, 0, 1, 2);
        for (int home = 1; home <= 3; home++) {
            x.deliver(0, home);
        }
        x.deliver(1, 0);
        x.deliver(2, 0);
        check.due("the first no", x.deliver(1, 0), 3);
        check.due("the second no", x.deliver(2, 0), 3);
        check.states(x, "aborted", t, 2, 0, 0, 0);
        check.due("no second MESSAGE 4 to the first no", x.waiting(0, 1), 0);
        check.due("one to the second no", x.waiting(0, 2), 1);
        check.due("one to the third, not two", x.waiting(0, 3), 1);
        check.due("a yes behind them", x.deliver(3, 0), 2);
        check.states(x, "still aborted", t, 2, 0, 0, 0);
        check.locks(x, "the yes unlocks nothing", -1, -1, t);
        check.due("the yes sends nothing", x.waiting(0, 3), 1);
    }

    private void laterNoLeavesANewLock() {
        FarStore x = Check.store(3, 0, 1, 2);
        Check.committed(x, 1, 1);
        Check.committed(x, 2, 2);
        int t = Check.committed(x, 0, 0, 1, 2);
        x.deliver(0, 1);
        x.deliver(0, 2);
        x.deliver(1, 0);
        x.deliver(1, 0);
        x.deliver(2, 0);
        int next = Check.committed(x, 0, 0, 1);
        check.locks(x, "locked anew", next, -1, -1);
        check.due("a second no of the first one", x.deliver(2, 0), 3);
        check.locks(x, "the new lock stays", next, -1, -1);
        check.states(x, "the new one waits", next, 3, 0, 0, 1);
        check.states(x, "the first one is aborted", t, 2, 0, 0, 0);
    }

    private void lateMessageOne() {
        FarStore x = Check.store(3, 1, 2, 2);
        Check.committed(x, 1, 0);
        int t = Check.committed(x, 0, 0, 1, 2);
        x.deliver(0, 1);
        x.deliver(1, 0);
        x.deliver(1, 0);
        check.states(x, "aborted before site 2 was asked", t, 2);
        check.due("it arrives", x.deliver(0, 2), 1);
        check.locks(x, "it locks", -1, t, t);
        check.due("its answer", x.deliver(2, 0), 2);
        check.states(x, "it stays aborted", t, 2, 0, 0, 0);
        check.locks(x, "it stays locked", -1, t, t);
        check.due("others have a conflict", x.commit(Check.writer(x, 2, 2)), 2);
        check.due("MESSAGE 4 behind it", x.deliver(0, 2), 4);
        check.locks(x, "unlocked", -1, -1, -1);
        check.due("others have none", x.commit(Check.writer(x, 2, 2)), 1);
    }

    private void lateMessageOneWithAConflict() {
        FarStore x = Check.store(3, 1, 2, 2);
        Check.committed(x, 1, 0);
        int t = Check.committed(x, 0, 0, 1, 2);
        Check.committed(x, 2, 2);
        x.deliver(0, 1);
        x.deliver(1, 0);
        x.deliver(1, 0);
        check.due("it arrives behind a commit", x.deliver(0, 2), 1);
        check.locks(x, "with a conflict none is locked", -1, -1, -1);
        check.due("the commit", x.deliver(2, 0), 5);
        check.due("no", x.deliver(2, 0), 3);
        check.due("MESSAGE 4 all the same", x.deliver(0, 2), 4);
        check.states(x, "aborted", t, 2, 0, 0, 0);
        check.due("no message to the first no", x.waiting(0, 1), 0);
    }
}
