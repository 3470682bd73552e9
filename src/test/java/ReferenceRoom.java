import java.util.ArrayList;
import java.util.Comparator;
import java.util.HashMap;
import java.util.List;
import java.util.Map;
import java.util.Objects;
import java.util.SortedSet;
import java.util.TreeMap;
import java.util.TreeSet;
import java.util.function.Predicate;

/**
 * The document's words, put down once more with the sets and maps of the Java library and without
 * regard to cost. RandomRunsTest holds MeshRoom against it.
 */
final class ReferenceRoom {
    private record Event(int number, int kind, int sender, int target, int value, int time,
            SortedSet<Integer> prevs, SortedSet<Integer> auths) {
        Integer key() {
            return switch (kind) {
                case 0 -> 0;
                case 5 -> 1;
                case 6 -> 2;
                case 7 -> null;
                default -> 3 + target;
            };
        }

        boolean heavy() {
            return kind == 5 || kind == 6 || kind == 4 || (kind == 3 && sender != target);
        }
    }

    private static final class Message {
        final int kind;
        final int event;
        final int from;
        final int to;
        boolean spoiled;

        Message(int kind, int event, int from, int to) {
            this.kind = kind;
            this.event = event;
            this.from = from;
            this.to = to;
        }
    }

    private final List<Event> events = new ArrayList<>();
    private final Map<Integer, SortedSet<Integer>> chains = new HashMap<>();
    private final Map<Integer, Map<Integer, Integer>> afters = new HashMap<>();
    private final Map<Integer, Boolean> goods = new HashMap<>();
    private final List<Map<Integer, Integer>> statuses = new ArrayList<>();
    private final List<Message> messages = new ArrayList<>();
    private final int[] offsets = new int[3];
    private int now = 0;

    /** How often something rare was met, so that a test can tell that its runs meet it. */
    int forks = 0;
    int overruled = 0;
    int offMainline = 0;

    /** How often something was met that should be out of reach, so that a test can tell if it is not. */
    int badPrevs = 0;
    int earlyWants = 0;
    int splitVerdicts = 0;

    ReferenceRoom() {
        events.add(new Event(1, 0, 0, 0, 0, 0, set(), set()));
        events.add(new Event(2, 1, 0, 0, 0, 0, set(1), set(1)));
        afters.put(1, new TreeMap<>(Map.of(0, 1)));
        afters.put(2, new TreeMap<>(Map.of(0, 1, 3, 2)));
        goods.put(1, true);
        goods.put(2, true);
        for (int p = 0; p < 3; p++) {
            statuses.add(new TreeMap<>(Map.of(1, 2, 2, 2)));
        }
    }

    private static SortedSet<Integer> set(Integer... members) {
        return new TreeSet<>(List.of(members));
    }

    private Event get(int e) {
        return events.get(e - 1);
    }

    private boolean exists(int e) {
        return e >= 1 && e <= events.size();
    }

    private SortedSet<Integer> chain(int e) {
        if (!chains.containsKey(e)) {
            SortedSet<Integer> chain = new TreeSet<>();
            for (int a : get(e).auths) {
                chain.add(a);
                chain.addAll(chain(a));
            }
            chains.put(e, chain);
        }
        return chains.get(e);
    }

    // ---- states

    private int membership(Map<Integer, Integer> state, int u) {
        Integer e = state.get(3 + u);
        return e == null ? 0 : get(e).kind;
    }

    private int level(Map<Integer, Integer> state, int u) {
        if (state.containsKey(1)) {
            return (get(state.get(1)).value >> (2 * u)) & 3;
        }
        return state.containsKey(0) && get(state.get(0)).sender == u ? 3 : 0;
    }

    private boolean open(Map<Integer, Integer> state) {
        return state.containsKey(2) && get(state.get(2)).value == 1;
    }

    private boolean allowed(Event e, Map<Integer, Integer> state) {
        if (!state.containsKey(0)) {
            return false;
        }
        int s = e.sender;
        int t = e.target;
        int ms = membership(state, s);
        int mt = membership(state, t);
        int ls = level(state, s);
        int lt = level(state, t);
        switch (e.kind) {
            case 1: {
                boolean first = e.prevs.size() == 1 && e.prevs.first().equals(state.get(0))
                        && s == get(state.get(0)).sender;
                return s == t && mt != 4 && (open(state) || mt == 1 || mt == 2 || first);
            }
            case 2:
                return ms == 1 && !(mt == 1 || mt == 4);
            case 3:
                if (s == t) {
                    return mt == 1 || mt == 2;
                }
                return ms == 1 && ls >= 2 && ls > lt && (mt == 1 || mt == 2 || mt == 4);
            case 4:
                return ms == 1 && ls >= 2 && ls > lt;
            case 5:
                for (int u = 0; u < 6; u++) {
                    int n = (e.value >> (2 * u)) & 3;
                    int m = level(state, u);
                    if (n != m && (n > ls || (m >= ls && u != s))) {
                        return false;
                    }
                }
                return ms == 1 && ls >= 2;
            case 6:
                return ms == 1 && ls >= 2;
            case 7:
                return ms == 1;
            default:
                return false;
        }
    }

    private Map<Integer, Integer> authState(Event e) {
        Map<Integer, Integer> state = new TreeMap<>();
        for (int a : e.auths) {
            state.put(get(a).key(), a);
        }
        return state;
    }

    private Map<Integer, Integer> before(Event e) {
        return resolutionAfter(e.prevs);
    }

    private Map<Integer, Integer> resolutionAfter(SortedSet<Integer> numbers) {
        List<Map<Integer, Integer>> states = new ArrayList<>();
        for (int n : numbers) {
            states.add(afters.get(n));
        }
        return resolution(states);
    }

    private SortedSet<Integer> whole(Map<Integer, Integer> state) {
        SortedSet<Integer> whole = new TreeSet<>();
        for (int e : state.values()) {
            whole.addAll(chain(e));
        }
        return whole;
    }

    private Map<Integer, Integer> resolution(List<Map<Integer, Integer>> states) {
        Map<Integer, Integer> agreed = new TreeMap<>();
        SortedSet<Integer> f = new TreeSet<>();
        SortedSet<Integer> otherKeys = new TreeSet<>();
        for (int key = 0; key < 9; key++) {
            Integer first = states.get(0).get(key);
            int k = key;
            if (states.stream().allMatch(s -> Objects.equals(s.get(k), first))) {
                if (first != null) {
                    agreed.put(key, first);
                }
            } else {
                otherKeys.add(key);
                states.stream().map(s -> s.get(k)).filter(Objects::nonNull).forEach(f::add);
            }
        }
        List<SortedSet<Integer>> wholes = new ArrayList<>();
        states.forEach(s -> wholes.add(whole(s)));
        for (Event e : events) {
            long in = wholes.stream().filter(w -> w.contains(e.number)).count();
            if (in > 0 && in < wholes.size()) {
                f.add(e.number);
            }
        }
        if (!f.isEmpty()) {
            forks++;
        }
        SortedSet<Integer> x = new TreeSet<>();
        for (int e : f) {
            if (get(e).heavy()) {
                x.add(e);
                chain(e).stream().filter(f::contains).forEach(x::add);
            }
        }
        Map<Integer, Integer> result = new TreeMap<>(agreed);
        tryHeavy(x, result);
        tryOthers(f, x, result);
        Map<Integer, Integer> last = new TreeMap<>(result);
        last.keySet().retainAll(otherKeys);
        last.putAll(agreed);
        if (!last.equals(result)) {
            overruled++;
        }
        return last;
    }

    private void tryHeavy(SortedSet<Integer> x, Map<Integer, Integer> result) {
        SortedSet<Integer> left = new TreeSet<>(x);
        Predicate<Integer> ready = e -> chain(e).stream().noneMatch(left::contains);
        Comparator<Integer> order = Comparator
                .comparing((Integer e) -> -level(authState(get(e)), get(e).sender))
                .thenComparing(e -> get(e).time)
                .thenComparing(e -> e);
        while (!left.isEmpty()) {
            int next = left.stream().filter(ready).min(order).orElseThrow();
            left.remove(next);
            attempt(get(next), result);
        }
    }

    private void tryOthers(SortedSet<Integer> f, SortedSet<Integer> x, Map<Integer, Integer> result) {
        List<Integer> mainline = new ArrayList<>();
        Integer levels = result.get(1);
        while (levels != null) {
            mainline.add(levels);
            levels = authState(get(levels)).get(1);
        }
        List<Integer> others = new ArrayList<>(f);
        others.removeAll(x);
        others.sort(Comparator
                .comparing((Integer e) -> -place(get(e), mainline))
                .thenComparing(e -> get(e).time)
                .thenComparing(e -> e));
        for (int e : others) {
            attempt(get(e), result);
        }
    }

    private int place(Event e, List<Integer> mainline) {
        Integer levels = authState(e).get(1);
        if (levels == null) {
            return 100;
        }
        if (mainline.contains(levels)) {
            return mainline.indexOf(levels);
        }
        offMainline++;
        return place(get(levels), mainline);
    }

    private void attempt(Event e, Map<Integer, Integer> result) {
        Map<Integer, Integer> filled = new TreeMap<>(authState(e));
        filled.putAll(result);
        if (allowed(e, filled)) {
            result.put(e.key(), e.number);
        }
    }

    // ---- servers

    private int stand(int p, int e) {
        return statuses.get(p).getOrDefault(e, 0);
    }

    private boolean known(int p, int e) {
        return stand(p, e) == 2 || stand(p, e) == 3;
    }

    private SortedSet<Integer> endSet(int p) {
        SortedSet<Integer> ends = new TreeSet<>();
        for (Event e : events) {
            boolean followed = events.stream()
                    .anyMatch(g -> stand(p, g.number) == 2 && g.prevs.contains(e.number));
            if (stand(p, e.number) == 2 && !followed) {
                ends.add(e.number);
            }
        }
        return ends;
    }

    private void lookAt(int p, int e) {
        statuses.get(p).put(e, goods.get(e) ? 2 : 3);
        for (Event g : events) {
            if (stand(p, g.number) == 1 && g.prevs.stream().allMatch(f -> known(p, f))) {
                lookAt(p, g.number);
                return;
            }
        }
    }

    private void send(int kind, int e, int from, int to) {
        if (messages.size() < 24) {
            messages.add(new Message(kind, e, from, to));
        }
    }

    private boolean badRequest(int u, int kind, int target, int value) {
        return u < 0 || u > 5 || target < 0 || target > 5 || kind < 1 || kind > 7
                || (kind == 5 && (value < 0 || value > 3))
                || (kind == 6 && (value < 0 || value > 1))
                || events.size() == 40;
    }

    private Event draft(int u, int kind, int target, int given, SortedSet<Integer> prevs) {
        Map<Integer, Integer> before = resolutionAfter(prevs);
        int value = 0;
        if (kind == 5) {
            for (int k = 0; k < 6; k++) {
                value += (k == target ? given : level(before, k)) << (2 * k);
            }
        } else if (kind == 6 || kind == 7) {
            value = given;
        }
        SortedSet<Integer> keys = set(0, 1, 3 + u);
        if (kind <= 4) {
            keys.add(3 + target);
        }
        if (kind <= 2) {
            keys.add(2);
        }
        SortedSet<Integer> auths = new TreeSet<>();
        keys.stream().map(before::get).filter(Objects::nonNull).forEach(auths::add);
        return new Event(events.size() + 1, kind, u, target, value, now + offsets[u % 3], prevs, auths);
    }

    private int make(Event e) {
        Map<Integer, Integer> before = before(e);
        boolean byAuths = allowed(e, authState(e));
        boolean byBefore = allowed(e, before);
        boolean good = byAuths && byBefore;
        if (byAuths != byBefore) {
            splitVerdicts++;
        }
        if (!e.prevs.stream().allMatch(goods::get)) {
            badPrevs++;
        }
        Map<Integer, Integer> after = new TreeMap<>(before);
        if (good && e.key() != null) {
            after.put(e.key(), e.number);
        }
        events.add(e);
        goods.put(e.number, good);
        afters.put(e.number, after);
        int home = e.sender % 3;
        lookAt(home, e.number);
        for (int q = 0; q < 3; q++) {
            if (q != home) {
                send(1, e.number, home, q);
            }
        }
        return e.number;
    }

    // ---- the face

    int act(int u, int kind, int target, int value) {
        if (badRequest(u, kind, target, value)) {
            return -1;
        }
        Event e = draft(u, kind, target, value, endSet(u % 3));
        return allowed(e, resolutionAfter(endSet(u % 3))) ? make(e) : -1;
    }

    int branch(int u, int kind, int target, int value, int prev) {
        if (badRequest(u, kind, target, value) || !exists(prev) || stand(u % 3, prev) != 2) {
            return -1;
        }
        return make(draft(u, kind, target, value, set(prev)));
    }

    boolean tick(int n) {
        if (n < 0 || n > 1000) {
            return false;
        }
        now += n;
        return true;
    }

    boolean offset(int p, int d) {
        if (p < 0 || p > 2 || d < -50 || d > 50) {
            return false;
        }
        offsets[p] = d;
        return true;
    }

    int offer(int p, int q) {
        if (p < 0 || p > 2 || q < 0 || q > 2 || p == q) {
            return -1;
        }
        endSet(p).forEach(e -> send(1, e, p, q));
        return endSet(p).size();
    }

    int deliver(int k) {
        if (k < 0 || k >= messages.size()) {
            return -1;
        }
        Message m = messages.remove(k);
        if (m.kind == 2) {
            if (known(m.to, m.event)) {
                send(1, m.event, m.to, m.from);
            } else {
                earlyWants++;
            }
        } else if (!m.spoiled && !known(m.to, m.event)) {
            List<Integer> missing = new ArrayList<>(get(m.event).prevs);
            missing.removeIf(e -> known(m.to, e));
            if (missing.isEmpty()) {
                lookAt(m.to, m.event);
            } else {
                statuses.get(m.to).put(m.event, 1);
                missing.forEach(e -> send(2, e, m.to, m.from));
            }
        }
        return m.kind;
    }

    int lose(int k) {
        return k < 0 || k >= messages.size() ? -1 : messages.remove(k).kind;
    }

    boolean spoil(int k) {
        if (k < 0 || k >= messages.size() || messages.get(k).kind == 2 || messages.get(k).spoiled) {
            return false;
        }
        messages.get(k).spoiled = true;
        return true;
    }

    int flying() {
        return messages.size();
    }

    int message(int k) {
        if (k < 0 || k >= messages.size()) {
            return -1;
        }
        Message m = messages.get(k);
        return m.event + 64 * m.to + 256 * m.from + 1024 * m.kind + (m.spoiled ? 4096 : 0);
    }

    int status(int p, int e) {
        return p < 0 || p > 2 || !exists(e) ? -1 : stand(p, e);
    }

    int ends(int p) {
        return p < 0 || p > 2 ? -1 : endSet(p).size();
    }

    int current(int p, int key) {
        if (p < 0 || p > 2 || key < 0 || key > 8) {
            return -1;
        }
        return resolutionAfter(endSet(p)).getOrDefault(key, 0);
    }

    int member(int p, int u) {
        if (p < 0 || p > 2 || u < 0 || u > 5) {
            return -1;
        }
        Map<Integer, Integer> state = resolutionAfter(endSet(p));
        return membership(state, u) + 8 * level(state, u);
    }

    int after(int e, int key) {
        return !exists(e) || key < 0 || key > 8 ? -1 : afters.get(e).getOrDefault(key, 0);
    }

    int event(int e, int what) {
        if (!exists(e)) {
            return -1;
        }
        Event v = get(e);
        return switch (what) {
            case 0 -> v.kind;
            case 1 -> v.sender;
            case 2 -> v.target;
            case 3 -> v.value;
            case 4 -> v.time;
            case 5 -> v.prevs.size();
            case 6 -> v.auths.size();
            case 7 -> chain(e).size();
            case 8 -> goods.get(e) ? 1 : 0;
            default -> -1;
        };
    }

    int linked(int e, int f) {
        if (!exists(e) || !exists(f)) {
            return 0;
        }
        return (get(e).prevs.contains(f) ? 1 : 0) + (get(e).auths.contains(f) ? 2 : 0)
                + (chain(e).contains(f) ? 4 : 0);
    }
}
