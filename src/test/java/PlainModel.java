import java.util.ArrayDeque;
import java.util.ArrayList;
import java.util.HashMap;
import java.util.HashSet;
import java.util.List;
import java.util.Map;
import java.util.NoSuchElementException;
import java.util.Set;
import java.util.TreeMap;
import java.util.TreeSet;

/** The document word by word, with sets of commits where the program has numbers; not bound by LANGUAGE.md. */
final class PlainModel {
    private int siteCount = 0;
    private final List<Integer> homes = new ArrayList<>();
    private final List<Boolean> kinds = new ArrayList<>();
    private final List<Deal> deals = new ArrayList<>();
    private final Map<Integer, Deal> locks = new HashMap<>();
    private final List<Set<Deal>> applied = new ArrayList<>();
    private final List<List<Deal>> held = new ArrayList<>();
    private final Map<String, ArrayDeque<Letter>> lines = new HashMap<>();

    private static final class Deal {
        int site;
        int state = 0;
        int number = 0;
        Set<Deal> visible;
        Set<Integer> yetToSayYes = new TreeSet<>();
        Set<Integer> asked = new TreeSet<>();
        Map<Integer, Long> written = new HashMap<>();
        Map<Integer, TreeMap<Integer, Integer>> changed = new HashMap<>();
    }

    private record Letter(int sort, Deal deal) {
    }

    private static void bad(boolean when) {
        if (when) {
            throw new IllegalArgumentException();
        }
    }

    private static void refused(boolean when) {
        if (when) {
            throw new IllegalStateException();
        }
    }

    private void badSite(int site) {
        bad(site < 0 || site >= siteCount);
    }

    private Deal deal(int t) {
        bad(t < 0 || t >= deals.size());
        return deals.get(t);
    }

    private void badObject(int object, boolean set) {
        bad(object < 0 || object >= homes.size());
        bad(kinds.get(object) != set);
    }

    void sites(int n) {
        bad(n < 1 || n > 6);
        refused(siteCount > 0);
        siteCount = n;
        for (int s = 0; s < n; s++) {
            applied.add(new HashSet<>());
            held.add(new ArrayList<>());
            for (int to = 0; to < n; to++) {
                lines.put(s + ">" + to, new ArrayDeque<>());
            }
        }
    }

    int object(int home, boolean set) {
        badSite(home);
        refused(homes.size() == 200);
        homes.add(home);
        kinds.add(set);
        return homes.size() - 1;
    }

    int begin(int site) {
        badSite(site);
        refused(deals.size() == 500);
        Deal d = new Deal();
        d.site = site;
        d.visible = new HashSet<>(applied.get(site));
        deals.add(d);
        return deals.size() - 1;
    }

    long read(int t, int object) {
        Deal d = deal(t);
        badObject(object, false);
        refused(d.state != 0);
        if (d.written.containsKey(object)) {
            return d.written.get(object);
        }
        List<Deal> writers = d.visible.stream().filter(c -> c.written.containsKey(object)).toList();
        for (Deal c : writers) {
            if (writers.stream().allMatch(other -> other == c || c.visible.contains(other))) {
                return c.written.get(object);
            }
        }
        if (!writers.isEmpty()) {
            throw new AssertionError("no writer is the latest");
        }
        return 0;
    }

    void write(int t, int object, long value) {
        Deal d = deal(t);
        badObject(object, false);
        refused(d.state != 0);
        d.written.put(object, value);
    }

    void change(int t, int object, int element, boolean add) {
        Deal d = deal(t);
        badObject(object, true);
        refused(d.state != 0);
        d.changed.computeIfAbsent(object, o -> new TreeMap<>()).merge(element, add ? 1 : -1, Integer::sum);
    }

    private TreeMap<Integer, Integer> counts(Deal d, int object) {
        TreeMap<Integer, Integer> sums = new TreeMap<>();
        Set<Deal> all = new HashSet<>(d.visible);
        all.add(d);
        for (Deal c : all) {
            c.changed.getOrDefault(object, new TreeMap<>()).forEach((e, n) -> sums.merge(e, n, Integer::sum));
        }
        return sums;
    }

    int count(int t, int object, int element) {
        Deal d = deal(t);
        badObject(object, true);
        refused(d.state != 0);
        return counts(d, object).getOrDefault(element, 0);
    }

    int element(int t, int object, int i) {
        Deal d = deal(t);
        badObject(object, true);
        refused(d.state != 0);
        TreeMap<Integer, Integer> sums = counts(d, object);
        List<Integer> there = sums.keySet().stream().filter(e -> sums.get(e) != 0).toList();
        if (i < 0 || i >= there.size()) {
            throw new NoSuchElementException();
        }
        return there.get(i);
    }

    private boolean conflict(Deal d, int home) {
        for (int object : d.written.keySet()) {
            if (homes.get(object) == home) {
                if (locks.containsKey(object) && locks.get(object) != d) {
                    return true;
                }
                for (Deal c : applied.get(home)) {
                    if (c.written.containsKey(object) && !d.visible.contains(c)) {
                        return true;
                    }
                }
            }
        }
        return false;
    }

    private void lock(Deal d, int home) {
        for (int object : d.written.keySet()) {
            if (homes.get(object) == home) {
                locks.put(object, d);
            }
        }
    }

    private void unlock(Deal d, int home) {
        locks.entrySet().removeIf(e -> e.getValue() == d && homes.get(e.getKey()) == home);
    }

    private void send(int sort, int from, int to, Deal d) {
        lines.get(from + ">" + to).add(new Letter(sort, d));
    }

    int commit(int t) {
        Deal d = deal(t);
        refused(d.state != 0);
        Set<Integer> others = new TreeSet<>();
        d.written.keySet().forEach(o -> others.add(homes.get(o)));
        others.remove(d.site);
        if (d.written.isEmpty() && d.changed.isEmpty()) {
            d.state = 1;
        } else if (conflict(d, d.site)) {
            d.state = 2;
        } else if (others.isEmpty()) {
            commits(d);
        } else {
            lock(d, d.site);
            d.state = 3;
            d.asked.addAll(others);
            d.yetToSayYes.addAll(others);
            others.forEach(home -> send(1, d.site, home, d));
        }
        return d.state;
    }

    private void commits(Deal d) {
        d.state = 1;
        d.number = 1 + (int) applied.get(d.site).stream().filter(c -> c.site == d.site).count();
        apply(d, d.site);
        for (int s = 0; s < siteCount; s++) {
            if (s != d.site) {
                send(5, d.site, s, d);
            }
        }
    }

    private boolean canBeApplied(Deal d, int site) {
        boolean numberBefore = d.number == 1
            || applied.get(site).stream().anyMatch(c -> c.site == d.site && c.number == d.number - 1);
        return numberBefore && applied.get(site).containsAll(d.visible);
    }

    private void apply(Deal d, int site) {
        applied.get(site).add(d);
        unlock(d, site);
        for (Deal h : held.get(site)) {
            if (canBeApplied(h, site)) {
                held.get(site).remove(h);
                apply(h, site);
                return;
            }
        }
    }

    void abort(int t) {
        Deal d = deal(t);
        refused(d.state != 0);
        d.state = 2;
    }

    int deliver(int from, int to) {
        badSite(from);
        badSite(to);
        bad(from == to);
        Letter letter = lines.get(from + ">" + to).poll();
        if (letter == null) {
            return 0;
        }
        Deal d = letter.deal();
        if (letter.sort() == 1) {
            boolean no = conflict(d, to);
            if (!no) {
                lock(d, to);
            }
            send(no ? 3 : 2, to, from, d);
        } else if (letter.sort() == 2 && d.state == 3) {
            d.yetToSayYes.remove(from);
            if (d.yetToSayYes.isEmpty()) {
                commits(d);
            }
        } else if (letter.sort() == 3 && d.state == 3) {
            d.state = 2;
            unlock(d, to);
            d.asked.stream().filter(home -> home != from).forEach(home -> send(4, to, home, d));
        } else if (letter.sort() == 4) {
            unlock(d, to);
        } else if (letter.sort() == 5) {
            if (canBeApplied(d, to)) {
                apply(d, to);
            } else {
                held.get(to).add(d);
            }
        }
        return letter.sort();
    }

    int waiting(int from, int to) {
        badSite(from);
        badSite(to);
        bad(from == to);
        return lines.get(from + ">" + to).size();
    }

    int seen(int site, int of) {
        badSite(site);
        badSite(of);
        return (int) applied.get(site).stream().filter(c -> c.site == of).count();
    }

    int state(int t, int what) {
        Deal d = deal(t);
        bad(what < 0 || what > 3);
        return switch (what) {
            case 0 -> d.state;
            case 1 -> d.number;
            case 2 -> (int) applied.stream().filter(site -> site.contains(d)).count();
            default -> d.state == 3 ? d.yetToSayYes.size() : 0;
        };
    }

    int locked(int object) {
        bad(object < 0 || object >= homes.size());
        return locks.containsKey(object) ? deals.indexOf(locks.get(object)) : -1;
    }

    int count(int what) {
        return switch (what) {
            case 0 -> siteCount;
            case 1 -> homes.size();
            case 2 -> deals.size();
            case 3 -> (int) deals.stream().filter(d -> d.number > 0).count();
            case 4 -> held.stream().mapToInt(List::size).sum();
            case 5 -> lines.values().stream().mapToInt(ArrayDeque::size).sum();
            default -> -1;
        };
    }
}
