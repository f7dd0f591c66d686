import java.util.ArrayList;
import java.util.Arrays;
import java.util.NoSuchElementException;

/** A store at sites far apart, with parallel snapshot isolation. The words used here are those of DOC.md. */
public final class FarStore {
    private static final int MOST_SITES = 6;
    private static final int MOST_OBJECTS = 200;
    private static final int MOST_TRANSACTIONS = 500;
    /** As many as the calls that are promised an answer: a run within the promise never comes so far. */
    private static final int MOST_CHANGES = 512;

    private static final int OPEN = 0;
    private static final int COMMITTED = 1;
    private static final int ABORTED = 2;
    private static final int WAITING = 3;

    private static final int ASK = 1;
    private static final int YES = 2;
    private static final int NO = 3;
    private static final int UNLOCK = 4;
    private static final int NEWS = 5;

    private static final int NOBODY = -1;

    private Site[] siteRow;
    private final ArrayList<Item> items;
    private final ArrayList<Transaction> transactions;
    private final Tally tally;
    private int changesKept;
    private int commitsMade;

    public FarStore() {
        siteRow = new Site[0];
        items = new ArrayList<>();
        transactions = new ArrayList<>();
        tally = new Tally();
    }

    public void sites(int n) throws IllegalArgumentException, IllegalStateException {
        if (n < 1 || n > MOST_SITES) {
            throw new IllegalArgumentException("so many sites cannot be");
        }
        if (siteRow.length > 0) {
            throw new IllegalStateException("the sites are told already");
        }
        Site[] row = new Site[n];
        for (int s = 0; s < n; s++) {
            row[s] = new Site(s, n);
        }
        siteRow = row;
    }

    public int object(int home, boolean set) throws IllegalArgumentException, IllegalStateException {
        needSite(home);
        if (items.size() >= MOST_OBJECTS) {
            throw new IllegalStateException("too many objects");
        }
        items.add(new Item(home, set));
        return items.size() - 1;
    }

    public int begin(int site) throws IllegalArgumentException, IllegalStateException {
        needSite(site);
        int number = transactions.size();
        if (number >= MOST_TRANSACTIONS) {
            throw new IllegalStateException("too many transactions");
        }
        transactions.add(new Transaction(number, site, siteRow[site].seenOf));
        return number;
    }

    public long read(int t, int object) throws IllegalArgumentException, IllegalStateException {
        Transaction reader = transactionOf(t);
        Item item = plainItem(object);
        needOpen(reader);
        return reader.valueOf(item);
    }

    public void write(int t, int object, long value) throws IllegalArgumentException, IllegalStateException {
        Transaction writer = transactionOf(t);
        Item item = plainItem(object);
        needOpen(writer);
        writer.keepWrite(item, value);
    }

    public void change(int t, int object, int element, boolean add)
            throws IllegalArgumentException, IllegalStateException {
        Transaction changer = transactionOf(t);
        Item item = setItem(object);
        needOpen(changer);
        if (changesKept >= MOST_CHANGES) {
            throw new IllegalStateException("too many changes");
        }
        changesKept++;
        changer.changes.add(new Change(changer, item, element, add ? 1 : -1));
    }

    public int count(int t, int object, int element) throws IllegalArgumentException, IllegalStateException {
        Transaction reader = transactionOf(t);
        Item item = setItem(object);
        needOpen(reader);
        return reader.countOf(item, element);
    }

    public int element(int t, int object, int i)
            throws IllegalArgumentException, IllegalStateException, NoSuchElementException {
        Transaction reader = transactionOf(t);
        Item item = setItem(object);
        needOpen(reader);
        reader.countAll(item, tally);
        int place = tally.placeOf(i);
        if (place < 0) {
            throw new NoSuchElementException("no element has this number");
        }
        return tally.elements[place];
    }

    public int commit(int t) throws IllegalArgumentException, IllegalStateException {
        Transaction committer = transactionOf(t);
        needOpen(committer);
        tryToCommit(committer);
        return committer.phase;
    }

    public void abort(int t) throws IllegalArgumentException, IllegalStateException {
        Transaction loser = transactionOf(t);
        needOpen(loser);
        loser.phase = ABORTED;
    }

    public int deliver(int from, int to) throws IllegalArgumentException, IllegalStateException {
        needTwoSites(from, to);
        Message message = siteRow[to].takeFrom(from);
        if (message == null) {
            return 0;
        }
        arrive(message, siteRow[to]);
        return message.sort;
    }

    public int waiting(int from, int to) throws IllegalArgumentException, IllegalStateException {
        needTwoSites(from, to);
        return siteRow[to].waitingFrom(from);
    }

    public int seen(int site, int of) throws IllegalArgumentException, IllegalStateException {
        needSite(site);
        needSite(of);
        return siteRow[site].seenOf[of];
    }

    public int state(int t, int what) throws IllegalArgumentException, IllegalStateException {
        Transaction asked = transactionOf(t);
        switch (what) {
            case 0:
                return asked.phase;
            case 1:
                return asked.commitNumber;
            case 2:
                return sitesThatApplied(asked);
            case 3:
                return asked.phase == WAITING ? asked.yesesDue : 0;
            default:
                throw new IllegalArgumentException("nothing is told under this number");
        }
    }

    public int locked(int object) throws IllegalArgumentException, IllegalStateException {
        return itemOf(object).lockedBy;
    }

    public int count(int what) {
        switch (what) {
            case 0:
                return siteRow.length;
            case 1:
                return items.size();
            case 2:
                return transactions.size();
            case 3:
                return commitsMade;
            case 4:
                return commitsHeld();
            case 5:
                return messagesWaiting();
            default:
                return -1;
        }
    }

    private void needSite(int site) {
        if (site < 0 || site >= siteRow.length) {
            throw new IllegalArgumentException("no such site");
        }
    }

    private void needTwoSites(int from, int to) {
        needSite(from);
        needSite(to);
        if (from == to) {
            throw new IllegalArgumentException("a site sends itself nothing");
        }
    }

    private Transaction transactionOf(int t) {
        if (t < 0 || t >= transactions.size()) {
            throw new IllegalArgumentException("no such transaction");
        }
        return transactions.get(t);
    }

    private Item itemOf(int object) {
        if (object < 0 || object >= items.size()) {
            throw new IllegalArgumentException("no such object");
        }
        return items.get(object);
    }

    private Item plainItem(int object) {
        Item item = itemOf(object);
        if (item.isSet) {
            throw new IllegalArgumentException("the object is a set");
        }
        return item;
    }

    private Item setItem(int object) {
        Item item = itemOf(object);
        if (!item.isSet) {
            throw new IllegalArgumentException("the object is no set");
        }
        return item;
    }

    private void needOpen(Transaction transaction) {
        if (transaction.phase != OPEN) {
            throw new IllegalStateException("the transaction is not open");
        }
    }

    private void tryToCommit(Transaction t) {
        if (t.writes.isEmpty() && t.changes.isEmpty()) {
            t.phase = COMMITTED;
            return;
        }
        Site own = siteRow[t.site];
        if (t.hasConflictAt(own)) {
            t.phase = ABORTED;
            return;
        }
        int others = otherHomes(t);
        if (others == 0) {
            makeCommit(t);
            return;
        }
        t.lockAt(own);
        t.phase = WAITING;
        t.yesesDue = others;
        sendToOtherHomes(t, ASK, NOBODY);
    }

    private int otherHomes(Transaction t) {
        int homes = 0;
        for (int s = 0; s < siteRow.length; s++) {
            if (t.asks(s)) {
                homes++;
            }
        }
        return homes;
    }

    private void sendToOtherHomes(Transaction t, int sort, int except) {
        for (int s = 0; s < siteRow.length; s++) {
            if (t.asks(s) && s != except) {
                siteRow[s].inbox.add(new Message(sort, t.site, t));
            }
        }
    }

    private void makeCommit(Transaction t) {
        Site own = siteRow[t.site];
        t.phase = COMMITTED;
        t.commitNumber = own.seenOf[t.site] + 1;
        commitsMade++;
        t.handToItems();
        // Nothing held here can have waited for it: no transaction saw it before it was made.
        own.apply(t);
        for (int s = 0; s < siteRow.length; s++) {
            if (s != t.site) {
                siteRow[s].inbox.add(new Message(NEWS, t.site, t));
            }
        }
    }

    private void arrive(Message message, Site here) {
        Transaction t = message.about;
        switch (message.sort) {
            case ASK:
                answer(t, here);
                break;
            case YES:
                hearYes(t);
                break;
            case NO:
                hearNo(t, message.from);
                break;
            case UNLOCK:
                t.unlockAt(here);
                break;
            default:
                here.receive(t);
                break;
        }
    }

    private void answer(Transaction t, Site here) {
        int sort = NO;
        if (!t.hasConflictAt(here)) {
            t.lockAt(here);
            sort = YES;
        }
        siteRow[t.site].inbox.add(new Message(sort, here.number, t));
    }

    private void hearYes(Transaction t) {
        if (t.phase != WAITING) {
            return;
        }
        t.yesesDue--;
        if (t.yesesDue == 0) {
            makeCommit(t);
        }
    }

    private void hearNo(Transaction t, int from) {
        if (t.phase != WAITING) {
            return;
        }
        t.phase = ABORTED;
        t.unlockAt(siteRow[t.site]);
        sendToOtherHomes(t, UNLOCK, from);
    }

    private int sitesThatApplied(Transaction t) {
        int number = 0;
        for (int s = 0; s < siteRow.length; s++) {
            if (siteRow[s].hasApplied(t)) {
                number++;
            }
        }
        return number;
    }

    private int commitsHeld() {
        int number = 0;
        for (int s = 0; s < siteRow.length; s++) {
            number += siteRow[s].held.size();
        }
        return number;
    }

    private int messagesWaiting() {
        int number = 0;
        for (int s = 0; s < siteRow.length; s++) {
            number += siteRow[s].inbox.size();
        }
        return number;
    }

    /** A site: what it has applied, what it holds back, and the messages on their way to it. */
    private static final class Site {
        final int number;
        final int[] seenOf;
        final ArrayList<Transaction> held;
        final ArrayList<Message> inbox;

        Site(int number, int sites) {
            this.number = number;
            seenOf = new int[sites];
            held = new ArrayList<>();
            inbox = new ArrayList<>();
        }

        Message takeFrom(int from) {
            for (int i = 0; i < inbox.size(); i++) {
                if (inbox.get(i).from == from) {
                    return inbox.remove(i);
                }
            }
            return null;
        }

        int waitingFrom(int from) {
            int messages = 0;
            for (int i = 0; i < inbox.size(); i++) {
                if (inbox.get(i).from == from) {
                    messages++;
                }
            }
            return messages;
        }

        boolean hasApplied(Transaction t) {
            return t.commitNumber > 0 && t.commitNumber <= seenOf[t.site];
        }

        void receive(Transaction t) {
            if (canApply(t)) {
                apply(t);
                applyHeld();
            } else {
                held.add(t);
            }
        }

        void apply(Transaction t) {
            seenOf[t.site] = t.commitNumber;
            t.unlockAt(this);
        }

        private boolean canApply(Transaction t) {
            if (seenOf[t.site] != t.commitNumber - 1) {
                return false;
            }
            for (int s = 0; s < seenOf.length; s++) {
                if (seenOf[s] < t.start[s]) {
                    return false;
                }
            }
            return true;
        }

        private void applyHeld() {
            for (int left = held.size(); left > 0; left--) {
                int next = firstThatCanBeApplied();
                if (next < 0) {
                    return;
                }
                apply(held.remove(next));
            }
        }

        private int firstThatCanBeApplied() {
            for (int i = 0; i < held.size(); i++) {
                if (canApply(held.get(i))) {
                    return i;
                }
            }
            return -1;
        }
    }

    /** A message to the site in whose inbox it lies. */
    private static final class Message {
        final int sort;
        final int from;
        final Transaction about;

        Message(int sort, int from, Transaction about) {
            this.sort = sort;
            this.from = from;
            this.about = about;
        }
    }

    /** An object of the document, with what commits at any site have done to it, in the order of their making. */
    private static final class Item {
        final int home;
        final boolean isSet;
        final ArrayList<Write> writes;
        final ArrayList<Change> changes;
        int lockedBy;

        Item(int home, boolean isSet) {
            this.home = home;
            this.isSet = isSet;
            writes = new ArrayList<>();
            changes = new ArrayList<>();
            lockedBy = NOBODY;
        }

        boolean hasConflict(Transaction t, Site at) {
            if (lockedBy != NOBODY && lockedBy != t.number) {
                return true;
            }
            for (int i = 0; i < writes.size(); i++) {
                Transaction other = writes.get(i).by;
                if (at.hasApplied(other) && !t.sees(other)) {
                    return true;
                }
            }
            return false;
        }
    }

    /** The last value that a transaction wrote to a plain object. */
    private static final class Write {
        final Transaction by;
        final Item item;
        long value;

        Write(Transaction by, Item item, long value) {
            this.by = by;
            this.item = item;
            this.value = value;
        }
    }

    /** An element added to a set (amount 1) or taken from it (amount -1). */
    private static final class Change {
        final Transaction by;
        final Item item;
        final int element;
        final int amount;

        Change(Transaction by, Item item, int element, int amount) {
            this.by = by;
            this.item = item;
            this.element = element;
            this.amount = amount;
        }
    }

    /** A transaction, which is also the commit that it may become. */
    private static final class Transaction {
        final int number;
        final int site;
        final int[] start;
        final ArrayList<Write> writes;
        final ArrayList<Change> changes;
        int phase;
        int commitNumber;
        int yesesDue;

        Transaction(int number, int site, int[] seenAtSite) {
            this.number = number;
            this.site = site;
            start = seenAtSite.clone();
            writes = new ArrayList<>();
            changes = new ArrayList<>();
            phase = OPEN;
        }

        boolean sees(Transaction other) {
            return other.commitNumber > 0 && other.commitNumber <= start[other.site];
        }

        void keepWrite(Item item, long value) {
            Write own = ownWrite(item);
            if (own == null) {
                writes.add(new Write(this, item, value));
            } else {
                own.value = value;
            }
        }

        long valueOf(Item item) {
            Write own = ownWrite(item);
            if (own != null) {
                return own.value;
            }
            // Who sees another's commit has begun behind it: the last made of those visible is the latest.
            for (int i = item.writes.size() - 1; i >= 0; i--) {
                Write write = item.writes.get(i);
                if (sees(write.by)) {
                    return write.value;
                }
            }
            return 0;
        }

        int countOf(Item item, int element) {
            int sum = 0;
            for (int i = 0; i < item.changes.size(); i++) {
                Change change = item.changes.get(i);
                if (change.element == element && sees(change.by)) {
                    sum += change.amount;
                }
            }
            for (int i = 0; i < changes.size(); i++) {
                Change change = changes.get(i);
                if (change.element == element && change.item == item) {
                    sum += change.amount;
                }
            }
            return sum;
        }

        void countAll(Item item, Tally tally) {
            tally.clear();
            for (int i = 0; i < item.changes.size(); i++) {
                Change change = item.changes.get(i);
                if (sees(change.by)) {
                    tally.take(change);
                }
            }
            for (int i = 0; i < changes.size(); i++) {
                Change change = changes.get(i);
                if (change.item == item) {
                    tally.take(change);
                }
            }
        }

        boolean asks(int other) {
            if (other == site) {
                return false;
            }
            for (int i = 0; i < writes.size(); i++) {
                if (writes.get(i).item.home == other) {
                    return true;
                }
            }
            return false;
        }

        boolean hasConflictAt(Site at) {
            for (int i = 0; i < writes.size(); i++) {
                Item item = writes.get(i).item;
                if (item.home == at.number && item.hasConflict(this, at)) {
                    return true;
                }
            }
            return false;
        }

        void lockAt(Site at) {
            for (int i = 0; i < writes.size(); i++) {
                Item item = writes.get(i).item;
                if (item.home == at.number) {
                    item.lockedBy = number;
                }
            }
        }

        void unlockAt(Site at) {
            for (int i = 0; i < writes.size(); i++) {
                Item item = writes.get(i).item;
                if (item.home == at.number && item.lockedBy == number) {
                    item.lockedBy = NOBODY;
                }
            }
        }

        void handToItems() {
            for (int i = 0; i < writes.size(); i++) {
                writes.get(i).item.writes.add(writes.get(i));
            }
            for (int i = 0; i < changes.size(); i++) {
                changes.get(i).item.changes.add(changes.get(i));
            }
        }

        private Write ownWrite(Item item) {
            for (int i = 0; i < writes.size(); i++) {
                if (writes.get(i).item == item) {
                    return writes.get(i);
                }
            }
            return null;
        }
    }

    /** Counts of elements in the elements' order; one is used again for every call, so that calls make no rows. */
    private static final class Tally {
        private static final int FIRST_ROOM = 16;
        int[] elements;
        int[] counts;
        int size;

        Tally() {
            elements = new int[FIRST_ROOM];
            counts = new int[FIRST_ROOM];
        }

        void clear() {
            size = 0;
        }

        void take(Change change) {
            int place = firstNotBelow(change.element);
            if (place == size || elements[place] != change.element) {
                makeRoomAt(place);
                elements[place] = change.element;
                counts[place] = 0;
            }
            counts[place] += change.amount;
        }

        int placeOf(int i) {
            int before = 0;
            for (int place = 0; place < size; place++) {
                if (counts[place] != 0) {
                    if (before == i) {
                        return place;
                    }
                    before++;
                }
            }
            return -1;
        }

        private int firstNotBelow(int element) {
            int low = 0;
            int high = size;
            for (int steps = size; low < high && steps > 0; steps--) {
                int middle = (low + high) / 2;
                if (elements[middle] < element) {
                    low = middle + 1;
                } else {
                    high = middle;
                }
            }
            return low;
        }

        private void makeRoomAt(int place) {
            if (size == elements.length) {
                elements = Arrays.copyOf(elements, 2 * size);
                counts = Arrays.copyOf(counts, 2 * size);
            }
            System.arraycopy(elements, place, elements, place + 1, size - place);
            System.arraycopy(counts, place, counts, place + 1, size - place);
            size++;
        }
    }
}
