import java.util.Arrays;

/** A room that three servers keep together without a master. */
public final class MeshRoom {
    public static final int NONE = -1;

    private static final int USERS = 6;
    private static final int SERVERS = 3;
    private static final int MOST_EVENTS = 40;
    private static final int MOST_FLYING = 24;
    private static final int LONGEST_TICK = 1000;
    private static final int GREATEST_OFFSET = 50;

    private static final int CREATE = 0;
    private static final int JOIN = 1;
    private static final int INVITE = 2;
    private static final int LEAVE = 3;
    private static final int BAN = 4;
    private static final int LEVELS = 5;
    private static final int RULE = 6;
    private static final int TEXT = 7;

    private static final int KEYS = 9;
    private static final int CREATE_KEY = 0;
    private static final int LEVELS_KEY = 1;
    private static final int RULE_KEY = 2;
    private static final int FIRST_MEMBER_KEY = 3;
    private static final int NO_KEY = -1;

    private static final int TOP_LEVEL = 3;
    private static final int LEADING_LEVEL = 2;
    private static final int PLACE_WITHOUT_LEVELS = 100;

    private static final int LACKING = 0;
    private static final int PENDING = 1;
    private static final int HELD = 2;
    private static final int REFUSED = 3;

    private static final int EVENT = 1;
    private static final int WANT = 2;

    private final History history = new History();
    private final Resolver resolver = new Resolver(history);
    private final Server[] servers = new Server[SERVERS];
    private final Wire wire = new Wire();
    // One row for all answers about a current state, so that asking makes no objects.
    private final State view = new State();
    private int now;

    public MeshRoom() {
        Event create = new Event(1, CREATE, 0, 0, 0L);
        create.makeGood();
        history.keep(create);
        Event join = new Event(2, JOIN, 0, 0, bit(1));
        join.stateBefore.copyFrom(create.stateAfter);
        join.takeAuths();
        join.makeGood();
        history.keep(join);
        for (int p = 0; p < SERVERS; p++) {
            servers[p] = new Server(bit(1) | bit(2));
        }
    }

    public int act(int u, int kind, int target, int value) {
        if (!canBeMade(u, kind, target, value)) {
            return NONE;
        }
        Event event = new Event(history.made + 1, kind, u, target, endsOf(servers[u % SERVERS]));
        resolver.resolve(event.prevs, event.stateBefore);
        event.takeValue(value);
        if (!event.stateBefore.allows(event)) {
            return NONE;
        }
        publish(event);
        return event.number;
    }

    public int branch(int u, int kind, int target, int value, int prev) {
        if (!canBeMade(u, kind, target, value)
                || !history.has(prev)
                || servers[u % SERVERS].standingOf(prev) != HELD) {
            return NONE;
        }
        Event event = new Event(history.made + 1, kind, u, target, bit(prev));
        resolver.resolve(event.prevs, event.stateBefore);
        event.takeValue(value);
        publish(event);
        return event.number;
    }

    public boolean tick(int n) {
        if (n < 0 || n > LONGEST_TICK) {
            return false;
        }
        now += n;
        return true;
    }

    public boolean offset(int p, int d) {
        if (!isServer(p) || d < -GREATEST_OFFSET || d > GREATEST_OFFSET) {
            return false;
        }
        servers[p].clockOffset = d;
        return true;
    }

    public int offer(int p, int q) {
        if (!isServer(p) || !isServer(q) || p == q) {
            return NONE;
        }
        long offered = endsOf(servers[p]);
        sendAll(EVENT, offered, p, q);
        return Long.bitCount(offered);
    }

    public int deliver(int k) {
        Message taken = wire.take(k);
        if (taken == null) {
            return NONE;
        }
        if (taken.kind == WANT) {
            answerWant(taken);
        } else {
            receiveEvent(taken);
        }
        return taken.kind;
    }

    public int lose(int k) {
        Message taken = wire.take(k);
        return taken == null ? NONE : taken.kind;
    }

    public boolean spoil(int k) {
        Message found = wire.find(k);
        if (found == null || found.kind == WANT || found.spoiled) {
            return false;
        }
        found.spoiled = true;
        return true;
    }

    public int flying() {
        return wire.count;
    }

    public int message(int k) {
        Message found = wire.find(k);
        return found == null ? NONE : found.code();
    }

    public int status(int p, int e) {
        if (!isServer(p) || !history.has(e)) {
            return NONE;
        }
        return servers[p].standingOf(e);
    }

    public int ends(int p) {
        return isServer(p) ? Long.bitCount(endsOf(servers[p])) : NONE;
    }

    public int current(int p, int key) {
        if (!isServer(p) || !isKey(key)) {
            return NONE;
        }
        resolver.resolve(endsOf(servers[p]), view);
        return view.numberAt(key);
    }

    public int member(int p, int u) {
        if (!isServer(p) || !isUser(u)) {
            return NONE;
        }
        resolver.resolve(endsOf(servers[p]), view);
        return view.membership(u) + 8 * view.level(u);
    }

    public int after(int e, int key) {
        Event found = history.find(e);
        if (found == null || !isKey(key)) {
            return NONE;
        }
        return found.stateAfter.numberAt(key);
    }

    public int event(int e, int what) {
        Event found = history.find(e);
        if (found == null) {
            return NONE;
        }
        switch (what) {
            case 0: return found.kind;
            case 1: return found.sender;
            case 2: return found.target;
            case 3: return found.value;
            case 4: return found.time;
            case 5: return Long.bitCount(found.prevs);
            case 6: return Long.bitCount(found.auths);
            case 7: return Long.bitCount(found.chain);
            case 8: return found.good ? 1 : 0;
            default: return NONE;
        }
    }

    public int linked(int e, int f) {
        Event found = history.find(e);
        if (found == null || !history.has(f)) {
            return 0;
        }
        return (isIn(f, found.prevs) ? 1 : 0)
                + (isIn(f, found.auths) ? 2 : 0)
                + (isIn(f, found.chain) ? 4 : 0);
    }

    private boolean canBeMade(int u, int kind, int target, int value) {
        if (!isUser(u) || !isUser(target) || kind < JOIN || kind > TEXT) {
            return false;
        }
        if (kind == LEVELS && (value < 0 || value > TOP_LEVEL)) {
            return false;
        }
        if (kind == RULE && value != 0 && value != 1) {
            return false;
        }
        return history.made < MOST_EVENTS;
    }

    private void publish(Event event) {
        int home = event.sender % SERVERS;
        event.time = now + servers[home].clockOffset;
        event.takeAuths();
        if (event.authState.allows(event) && event.stateBefore.allows(event)) {
            event.makeGood();
        } else {
            event.stateAfter.copyFrom(event.stateBefore);
        }
        history.keep(event);
        lookAt(servers[home], event);
        for (int q = 0; q < SERVERS; q++) {
            if (q != home) {
                wire.send(EVENT, event.number, home, q);
            }
        }
    }

    private void lookAt(Server server, Event event) {
        Event next = event;
        for (int turn = 0; turn <= MOST_EVENTS && next != null; turn++) {
            server.settle(next);
            next = firstReady(server);
        }
    }

    private Event firstReady(Server server) {
        for (int n = 1; n <= history.made; n++) {
            Event waiting = history.pick(n, server.pending);
            if (waiting != null && server.unsettled(waiting.prevs) == 0L) {
                return waiting;
            }
        }
        return null;
    }

    private long endsOf(Server server) {
        long followed = 0L;
        for (int n = 1; n <= history.made; n++) {
            Event held = history.pick(n, server.held);
            if (held != null) {
                followed |= held.prevs;
            }
        }
        return server.held & ~followed;
    }

    private void receiveEvent(Message received) {
        Server receiver = servers[received.receiver];
        Event brought = history.find(received.number);
        if (received.spoiled || brought == null || receiver.isSettled(received.number)) {
            return;
        }
        long missing = receiver.unsettled(brought.prevs);
        if (missing == 0L) {
            lookAt(receiver, brought);
        } else {
            receiver.pending |= bit(brought.number);
            sendAll(WANT, missing, received.receiver, received.sender);
        }
    }

    private void answerWant(Message received) {
        if (servers[received.receiver].isSettled(received.number)) {
            wire.send(EVENT, received.number, received.receiver, received.sender);
        }
    }

    private void sendAll(int kind, long numbers, int from, int to) {
        for (int n = 1; n <= history.made; n++) {
            if (isIn(n, numbers)) {
                wire.send(kind, n, from, to);
            }
        }
    }

    private static boolean isUser(int u) {
        return u >= 0 && u < USERS;
    }

    private static boolean isServer(int p) {
        return p >= 0 && p < SERVERS;
    }

    private static boolean isKey(int key) {
        return key >= 0 && key < KEYS;
    }

    // A set of events is a long: with 40 events at most, each has a bit of its own.
    private static long bit(int number) {
        return 1L << number;
    }

    private static boolean isIn(int number, long set) {
        return (set >>> number & 1L) != 0L;
    }

    /** One change of the room. */
    private static final class Event {
        final int number;
        final int kind;
        final int sender;
        final int target;
        final long prevs;
        final State stateBefore = new State();
        final State authState = new State();
        final State stateAfter = new State();
        int value;
        int time;
        long auths;
        long chain;
        boolean good;

        Event(int number, int kind, int sender, int target, long prevs) {
            this.number = number;
            this.kind = kind;
            this.sender = sender;
            this.target = target;
            this.prevs = prevs;
        }

        int key() {
            switch (kind) {
                case CREATE: return CREATE_KEY;
                case LEVELS: return LEVELS_KEY;
                case RULE: return RULE_KEY;
                case TEXT: return NO_KEY;
                default: return FIRST_MEMBER_KEY + target;
            }
        }

        boolean isOfMembership() {
            return kind >= JOIN && kind <= BAN;
        }

        boolean isHeavy() {
            return kind == LEVELS || kind == RULE || kind == BAN
                    || kind == LEAVE && sender != target;
        }

        int senderLevel() {
            return authState.level(sender);
        }

        void takeValue(int given) {
            if (kind == LEVELS) {
                value = stateBefore.levelsWith(target, given);
            } else if (kind == RULE || kind == TEXT) {
                value = given;
            }
        }

        void takeAuths() {
            takeAuth(CREATE_KEY);
            takeAuth(LEVELS_KEY);
            takeAuth(FIRST_MEMBER_KEY + sender);
            if (isOfMembership()) {
                takeAuth(FIRST_MEMBER_KEY + target);
            }
            if (kind == JOIN || kind == INVITE) {
                takeAuth(RULE_KEY);
            }
        }

        private void takeAuth(int key) {
            Event auth = stateBefore.byKey[key];
            if (auth != null) {
                authState.byKey[key] = auth;
                auths |= bit(auth.number);
                chain |= bit(auth.number) | auth.chain;
            }
        }

        void makeGood() {
            good = true;
            stateAfter.copyFrom(stateBefore);
            stateAfter.put(this);
        }
    }

    /** For each key one event with it, or none. */
    private static final class State {
        final Event[] byKey = new Event[KEYS];

        void copyFrom(State other) {
            for (int key = 0; key < KEYS; key++) {
                byKey[key] = other.byKey[key];
            }
        }

        void put(Event event) {
            int key = event.key();
            if (key != NO_KEY) {
                byKey[key] = event;
            }
        }

        int numberAt(int key) {
            return byKey[key] == null ? 0 : byKey[key].number;
        }

        // 0 stands for no membership: CREATE, the kind 0, is never the event of such a key.
        int membership(int u) {
            Event found = byKey[FIRST_MEMBER_KEY + u];
            return found == null ? 0 : found.kind;
        }

        int level(int u) {
            Event levels = byKey[LEVELS_KEY];
            if (levels != null) {
                return levels.value >> 2 * u & 3;
            }
            Event create = byKey[CREATE_KEY];
            return create != null && create.sender == u ? TOP_LEVEL : 0;
        }

        int levelsWith(int user, int given) {
            int levels = 0;
            for (int u = 0; u < USERS; u++) {
                levels += (u == user ? given : level(u)) << 2 * u;
            }
            return levels;
        }

        boolean isOpen() {
            Event rule = byKey[RULE_KEY];
            return rule != null && rule.value == 1;
        }

        /** All that is in the chains of the events of this state. */
        long whole() {
            long all = 0L;
            for (int key = 0; key < KEYS; key++) {
                if (byKey[key] != null) {
                    all |= byKey[key].chain;
                }
            }
            return all;
        }

        boolean allows(Event event) {
            if (byKey[CREATE_KEY] == null) {
                return false;
            }
            switch (event.kind) {
                case JOIN: return allowsJoin(event);
                case INVITE: return allowsInvite(event);
                case LEAVE: return allowsLeave(event);
                case BAN: return hasPowerOver(event.sender, event.target);
                case LEVELS: return allowsLevels(event);
                case RULE: return leads(event.sender);
                case TEXT: return membership(event.sender) == JOIN;
                default: return false;
            }
        }

        private boolean allowsJoin(Event event) {
            int membership = membership(event.target);
            if (event.sender != event.target || membership == BAN) {
                return false;
            }
            return isOpen() || membership == JOIN || membership == INVITE || isFirstJoin(event);
        }

        private boolean isFirstJoin(Event event) {
            Event create = byKey[CREATE_KEY];
            return create != null
                    && event.prevs == bit(create.number)
                    && event.sender == create.sender;
        }

        private boolean allowsInvite(Event event) {
            int invited = membership(event.target);
            return membership(event.sender) == JOIN && invited != JOIN && invited != BAN;
        }

        private boolean allowsLeave(Event event) {
            int leaving = membership(event.target);
            boolean isThere = leaving == JOIN || leaving == INVITE;
            if (event.sender == event.target) {
                return isThere;
            }
            return (isThere || leaving == BAN) && hasPowerOver(event.sender, event.target);
        }

        private boolean allowsLevels(Event event) {
            if (!leads(event.sender)) {
                return false;
            }
            int own = level(event.sender);
            for (int u = 0; u < USERS; u++) {
                int wanted = event.value >> 2 * u & 3;
                int had = level(u);
                boolean isFree = wanted <= own && (had < own || u == event.sender);
                if (wanted != had && !isFree) {
                    return false;
                }
            }
            return true;
        }

        private boolean leads(int u) {
            return membership(u) == JOIN && level(u) >= LEADING_LEVEL;
        }

        private boolean hasPowerOver(int u, int other) {
            int own = level(u);
            return membership(u) == JOIN && own >= LEADING_LEVEL && own > level(other);
        }
    }

    /** All events that were made, by their numbers. */
    private static final class History {
        private final Event[] events = new Event[MOST_EVENTS + 1];
        int made;

        void keep(Event event) {
            if (made < MOST_EVENTS) {
                made++;
                events[made] = event;
            }
        }

        boolean has(int number) {
            return number >= 1 && number <= made;
        }

        Event find(int number) {
            return has(number) ? events[number] : null;
        }

        /** The event, if it is in the set. */
        Event pick(int number, long set) {
            return isIn(number, set) ? find(number) : null;
        }
    }

    /** Brings the states of several histories to one. */
    private static final class Resolver {
        private final History history;
        private final boolean[] agreed = new boolean[KEYS];
        private final State agreedState = new State();
        private final State trial = new State();
        private final int[] mainline = new int[MOST_EVENTS + 1];
        private final int[] places = new int[MOST_EVENTS + 1];

        Resolver(History history) {
            this.history = history;
        }

        /** Puts the resolution of the states after the given events into the result. */
        void resolve(long sources, State result) {
            findAgreed(sources);
            result.copyFrom(agreedState);
            long contested = findContested(sources);
            long heavy = heavyWithChains(contested);
            long left = heavy;
            for (int turn = 0; turn < MOST_EVENTS && left != 0L; turn++) {
                left = tryOne(nextHeavy(left), left, result);
            }
            findPlaces(result);
            left = contested & ~heavy;
            for (int turn = 0; turn < MOST_EVENTS && left != 0L; turn++) {
                left = tryOne(nextOther(left), left, result);
            }
            restoreAgreed(result);
        }

        private void findAgreed(long sources) {
            for (int key = 0; key < KEYS; key++) {
                agreed[key] = true;
                agreedState.byKey[key] = null;
            }
            boolean isFirst = true;
            for (int n = 1; n <= history.made; n++) {
                Event source = history.pick(n, sources);
                if (source != null) {
                    if (isFirst) {
                        agreedState.copyFrom(source.stateAfter);
                    }
                    isFirst = false;
                    dropDiffering(source.stateAfter);
                }
            }
        }

        private void dropDiffering(State state) {
            for (int key = 0; key < KEYS; key++) {
                if (state.byKey[key] != agreedState.byKey[key]) {
                    agreed[key] = false;
                    agreedState.byKey[key] = null;
                }
            }
        }

        private long findContested(long sources) {
            long disputed = 0L;
            long inSome = 0L;
            long inAll = -1L;
            for (int n = 1; n <= history.made; n++) {
                Event source = history.pick(n, sources);
                if (source != null) {
                    long whole = source.stateAfter.whole();
                    inSome |= whole;
                    inAll &= whole;
                    disputed |= disputedOf(source.stateAfter);
                }
            }
            return disputed | inSome & ~inAll;
        }

        private long disputedOf(State state) {
            long disputed = 0L;
            for (int key = 0; key < KEYS; key++) {
                if (!agreed[key] && state.byKey[key] != null) {
                    disputed |= bit(state.byKey[key].number);
                }
            }
            return disputed;
        }

        private long heavyWithChains(long contested) {
            long heavy = 0L;
            for (int n = 1; n <= history.made; n++) {
                Event event = history.pick(n, contested);
                if (event != null && event.isHeavy()) {
                    heavy |= bit(n) | event.chain & contested;
                }
            }
            return heavy;
        }

        // Events come by their numbers and give way only to a better one, so ties go to the least.
        private Event nextHeavy(long left) {
            Event best = null;
            for (int n = 1; n <= history.made; n++) {
                Event event = history.pick(n, left);
                if (event != null && (event.chain & left) == 0L
                        && (best == null || isOfMoreWeight(event, best))) {
                    best = event;
                }
            }
            return best;
        }

        private static boolean isOfMoreWeight(Event event, Event best) {
            int level = event.senderLevel();
            int bestLevel = best.senderLevel();
            return level > bestLevel || level == bestLevel && event.time < best.time;
        }

        private Event nextOther(long left) {
            Event best = null;
            for (int n = 1; n <= history.made; n++) {
                Event event = history.pick(n, left);
                if (event != null && (best == null || isFartherBack(event, best))) {
                    best = event;
                }
            }
            return best;
        }

        private boolean isFartherBack(Event event, Event best) {
            int place = places[event.number];
            int bestPlace = places[best.number];
            return place > bestPlace || place == bestPlace && event.time < best.time;
        }

        /** Tries an event and answers those that are left to try. */
        private long tryOne(Event event, long left, State result) {
            if (event == null) {
                return 0L;
            }
            for (int key = 0; key < KEYS; key++) {
                Event standing = result.byKey[key];
                trial.byKey[key] = standing != null ? standing : event.authState.byKey[key];
            }
            if (trial.allows(event)) {
                result.put(event);
            }
            return left & ~bit(event.number);
        }

        private void findPlaces(State result) {
            Arrays.fill(mainline, NONE);
            Event levels = result.byKey[LEVELS_KEY];
            for (int place = 0; place < MOST_EVENTS && levels != null; place++) {
                mainline[levels.number] = place;
                levels = levels.authState.byKey[LEVELS_KEY];
            }
            // An auth has a lesser number than its event, so its own place stands already.
            for (int n = 1; n <= history.made; n++) {
                places[n] = placeOf(history.find(n));
            }
        }

        private int placeOf(Event event) {
            Event levels = event == null ? null : event.authState.byKey[LEVELS_KEY];
            if (levels == null) {
                return PLACE_WITHOUT_LEVELS;
            }
            int place = mainline[levels.number];
            return place != NONE ? place : places[levels.number];
        }

        private void restoreAgreed(State result) {
            for (int key = 0; key < KEYS; key++) {
                if (agreed[key]) {
                    result.byKey[key] = agreedState.byKey[key];
                }
            }
        }
    }

    /** What one server knows of the events. */
    private static final class Server {
        long pending;
        long held;
        long refused;
        int clockOffset;

        Server(long held) {
            this.held = held;
        }

        int standingOf(int number) {
            if (isIn(number, held)) {
                return HELD;
            }
            if (isIn(number, refused)) {
                return REFUSED;
            }
            return isIn(number, pending) ? PENDING : LACKING;
        }

        boolean isSettled(int number) {
            return isIn(number, held | refused);
        }

        /** Those of the events that are neither held nor refused here. */
        long unsettled(long events) {
            return events & ~(held | refused);
        }

        void settle(Event event) {
            pending &= ~bit(event.number);
            if (event.good) {
                held |= bit(event.number);
            } else {
                refused |= bit(event.number);
            }
        }
    }

    /** One event, or the wish for one, on its way from server to server. */
    private static final class Message {
        final int kind;
        final int number;
        final int sender;
        final int receiver;
        boolean spoiled;

        Message(int kind, int number, int sender, int receiver) {
            this.kind = kind;
            this.number = number;
            this.sender = sender;
            this.receiver = receiver;
        }

        int code() {
            return number + 64 * receiver + 256 * sender + 1024 * kind + (spoiled ? 4096 : 0);
        }
    }

    /** The messages that fly, in the order in which they were sent. */
    private static final class Wire {
        private final Message[] messages = new Message[MOST_FLYING];
        int count;

        void send(int kind, int number, int from, int to) {
            if (count < MOST_FLYING) {
                messages[count] = new Message(kind, number, from, to);
                count++;
            }
        }

        Message find(int k) {
            return k >= 0 && k < count ? messages[k] : null;
        }

        Message take(int k) {
            Message taken = find(k);
            if (taken != null) {
                count--;
                for (int i = k; i < count; i++) {
                    messages[i] = messages[i + 1];
                }
                messages[count] = null;
            }
            return taken;
        }
    }
}
