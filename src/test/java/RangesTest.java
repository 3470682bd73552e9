import java.util.Arrays;
import java.util.function.Supplier;

/** Every range that the document names: all that is in it is taken, and nothing beside it. */
public final class RangesTest {
    private static final Check CHECK = new Check("RangesTest");
    private static final int NONE = MeshRoom.NONE;
    private static final int MIN = Integer.MIN_VALUE;
    private static final int MAX = Integer.MAX_VALUE;

    /** A call with one argument left open. */
    private interface Call {
        int answer(MeshRoom room, int argument);
    }

    public static void main(String[] args) {
        actUser();
        actTarget();
        actKind();
        actLevelsValue();
        actRuleValue();
        actOtherValues();
        branchUser();
        branchTarget();
        branchKind();
        branchLevelsValue();
        branchRuleValue();
        branchOtherValues();
        branchPrev();
        tickLength();
        offsetServer();
        offsetSize();
        offerServers();
        messagePlaces();
        statusServer();
        statusEvent();
        endsServer();
        currentServerAndKey();
        memberServerAndUser();
        afterEventAndKey();
        eventAndWhat();
        linkedEvents();
        CHECK.end();
    }

    /** In a new room each time: from the least value on the answers due, beside them the refusal. */
    private static void range(String call, Supplier<MeshRoom> rooms, Call open, int least, int[] due,
            int refusal) {
        for (int i = 0; i < due.length; i++) {
            CHECK.due(call + " with " + (least + i), open.answer(rooms.get(), least + i), due[i]);
        }
        int greatest = least + due.length - 1;
        for (int outside : beside(least, greatest)) {
            if (outside < least || outside > greatest) {
                CHECK.due(call + " with " + outside, open.answer(rooms.get(), outside), refusal);
            }
        }
    }

    private static void range(String call, Supplier<MeshRoom> rooms, Call open, int least, int... due) {
        range(call, rooms, open, least, due, NONE);
    }

    // The next ones on both sides, and those that a shift, a mask or a lost sign would lead back.
    private static int[] beside(int least, int greatest) {
        return new int[] {
            least - 1, least - 2, greatest + 1, greatest + 2, MIN, MIN + 1, MAX, MAX - 1,
            least - 32, least + 32, greatest + 32, least - 64, least + 64, greatest + 64,
            least + 256, greatest + 256, greatest - 256, least + 65536, greatest + 65536,
            MIN + greatest, -greatest, -greatest - 1, ~least, ~greatest,
        };
    }

    private static int[] same(int value, int times) {
        int[] row = new int[times];
        Arrays.fill(row, value);
        return row;
    }

    /** The numbers from the least to the greatest. */
    private static int[] upTo(int least, int greatest) {
        int[] row = new int[greatest - least + 1];
        for (int i = 0; i < row.length; i++) {
            row[i] = least + i;
        }
        return row;
    }

    private static MeshRoom allJoined() {
        return Rooms.withMembers(5);
    }

    // Promise 2: "NONE (refused) when u or target is not 0 .. 5"
    private static void actUser() {
        range("act(u, TEXT, 0, 0)", RangesTest::allJoined,
                (room, u) -> room.act(u, Rooms.TEXT, 0, 0), 0, same(9, 6));
        range("the sender by act(u, TEXT, 0, 0)", RangesTest::allJoined,
                (room, u) -> room.event(room.act(u, Rooms.TEXT, 0, 0), 1), 0, upTo(0, 5));
        range("its server by act(u, TEXT, 0, 0)", RangesTest::allJoined, (room, u) -> {
            int made = room.act(u, Rooms.TEXT, 0, 0);
            return made == NONE ? NONE : room.status(0, made) + 4 * room.status(1, made)
                    + 16 * room.status(2, made);
        }, 0, 2, 8, 32, 2, 8, 32);
    }

    private static void actTarget() {
        range("act(0, TEXT, target, 0)", RangesTest::allJoined,
                (room, target) -> room.act(0, Rooms.TEXT, target, 0), 0, same(9, 6));
        range("the target by act(0, TEXT, target, 0)", RangesTest::allJoined,
                (room, target) -> room.event(room.act(0, Rooms.TEXT, target, 0), 2), 0, upTo(0, 5));
        range("act(0, BAN, target, 0)", RangesTest::allJoined,
                (room, target) -> room.act(0, Rooms.BAN, target, 0), 1, same(9, 5));
        range("act(0, INVITE, target, 0)", MeshRoom::new,
                (room, target) -> room.act(0, Rooms.INVITE, target, 0), 1, same(3, 5));
    }

    // Promise 2: "kind not 1 .. 7"
    private static void actKind() {
        int[] targets = {0, 0, 5, 1, 1, 1, 0, 0};
        range("act(0, kind, .., 1)", () -> Rooms.withMembers(4),
                (room, kind) -> room.act(0, kind, targets[kind & 7], 1), 1, same(8, 7));
        range("the kind by act(0, kind, .., 1)", () -> Rooms.withMembers(4),
                (room, kind) -> room.event(room.act(0, kind, targets[kind & 7], 1), 0), 1, upTo(1, 7));
        for (int u = 0; u < 6; u++) {
            CHECK.due("a second CREATE by user " + u, allJoined().act(u, 0, u, 0), NONE);
        }
    }

    // Promise 2: "the value not 0 .. 3 for LEVELS"
    private static void actLevelsValue() {
        for (int target = 1; target < 6; target++) {
            int user = target;
            range("act(0, LEVELS, " + user + ", value)", RangesTest::allJoined,
                    (room, value) -> room.act(0, Rooms.LEVELS, user, value), 0, same(9, 4));
            range("the value by act(0, LEVELS, " + user + ", value)", RangesTest::allJoined,
                    (room, value) -> room.event(room.act(0, Rooms.LEVELS, user, value), 3), 0,
                    3, 3 + (1 << 2 * user), 3 + (2 << 2 * user), 3 + (3 << 2 * user));
        }
        range("the value by act(0, LEVELS, 0, value)", RangesTest::allJoined,
                (room, value) -> room.event(room.act(0, Rooms.LEVELS, 0, value), 3), 0, 0, 1, 2, 3);
    }

    // Promise 2: "or not 0 or 1 for RULE"
    private static void actRuleValue() {
        range("act(0, RULE, 0, value)", RangesTest::allJoined,
                (room, value) -> room.act(0, Rooms.RULE, 0, value), 0, 9, 9);
        range("the value by act(0, RULE, 0, value)", RangesTest::allJoined,
                (room, value) -> room.event(room.act(0, Rooms.RULE, 0, value), 3), 0, 0, 1);
    }

    // Terms: "RULE and TEXT: the given one (any int for TEXT); others 0, whatever is given."
    private static void actOtherValues() {
        int[] values = {0, 1, 2, 3, 4, -1, -2, 255, 256, 65536, MAX, MAX - 1, MIN, MIN + 1};
        for (int value : values) {
            MeshRoom room = Rooms.withMembers(4);
            CHECK.due("TEXT with " + value, room.act(0, Rooms.TEXT, 0, value), 8);
            CHECK.due("value of the TEXT with " + value, room.event(8, 3), value);
            int[][] others = {{0, Rooms.JOIN, 0}, {0, Rooms.INVITE, 5}, {0, Rooms.LEAVE, 1}, {0, Rooms.BAN, 2}};
            for (int i = 0; i < others.length; i++) {
                int[] o = others[i];
                CHECK.due("kind " + o[1] + " with " + value, room.act(o[0], o[1], o[2], value), 9 + i);
                CHECK.due("value of kind " + o[1] + " with " + value, room.event(9 + i, 3), 0);
            }
        }
    }

    // Promise 3: "NONE (refused) when u or target is not 0 .. 5"
    private static void branchUser() {
        range("branch(u, TEXT, 0, 0, 2)", MeshRoom::new,
                (room, u) -> room.branch(u, Rooms.TEXT, 0, 0, 2), 0, same(3, 6));
        range("the sender by branch(u, TEXT, 0, 0, 2)", MeshRoom::new,
                (room, u) -> room.event(room.branch(u, Rooms.TEXT, 0, 0, 2), 1), 0, upTo(0, 5));
        // "whether it is allowed or not": only user 0 is in the room.
        range("its status at home by branch(u, TEXT, 0, 0, 2)", MeshRoom::new,
                (room, u) -> room.branch(u, Rooms.TEXT, 0, 0, 2) == NONE ? NONE : room.status(u % 3, 3), 0,
                2, 3, 3, 3, 3, 3);
    }

    private static void branchTarget() {
        range("branch(0, TEXT, target, 0, 2)", MeshRoom::new,
                (room, target) -> room.branch(0, Rooms.TEXT, target, 0, 2), 0, same(3, 6));
        range("the target by branch(0, TEXT, target, 0, 2)", MeshRoom::new,
                (room, target) -> room.event(room.branch(0, Rooms.TEXT, target, 0, 2), 2), 0, upTo(0, 5));
    }

    // Promise 3: "kind not 1 .. 7"
    private static void branchKind() {
        range("branch(0, kind, 0, 0, 2)", MeshRoom::new,
                (room, kind) -> room.branch(0, kind, 0, 0, 2), 1, same(3, 7));
        range("the kind by branch(0, kind, 0, 0, 2)", MeshRoom::new,
                (room, kind) -> room.event(room.branch(0, kind, 0, 0, 2), 0), 1, upTo(1, 7));
        CHECK.due("a second CREATE after the first", new MeshRoom().branch(0, 0, 0, 0, 1), NONE);
    }

    // Promise 3: "the value not as in act"
    private static void branchLevelsValue() {
        range("branch(0, LEVELS, 5, value, 2)", MeshRoom::new,
                (room, value) -> room.branch(0, Rooms.LEVELS, 5, value, 2), 0, same(3, 4));
        range("the value by branch(0, LEVELS, 5, value, 2)", MeshRoom::new,
                (room, value) -> room.event(room.branch(0, Rooms.LEVELS, 5, value, 2), 3), 0,
                3, 3 + 1024, 3 + 2048, 3 + 3072);
        range("the value by branch(1, LEVELS, 1, value, 2), not allowed", MeshRoom::new,
                (room, value) -> room.event(room.branch(1, Rooms.LEVELS, 1, value, 2), 3), 0, 3, 7, 11, 15);
    }

    private static void branchRuleValue() {
        range("branch(0, RULE, 0, value, 2)", MeshRoom::new,
                (room, value) -> room.branch(0, Rooms.RULE, 0, value, 2), 0, 3, 3);
        range("the value by branch(0, RULE, 0, value, 2)", MeshRoom::new,
                (room, value) -> room.event(room.branch(0, Rooms.RULE, 0, value, 2), 3), 0, 0, 1);
        range("the value by branch(1, RULE, 0, value, 2), not allowed", MeshRoom::new,
                (room, value) -> room.event(room.branch(1, Rooms.RULE, 0, value, 2), 3), 0, 0, 1);
    }

    private static void branchOtherValues() {
        int[] values = {0, 1, 2, 3, 4, -1, -2, 255, 256, 65536, MAX, MAX - 1, MIN, MIN + 1};
        int[] kinds = {Rooms.JOIN, Rooms.INVITE, Rooms.LEAVE, Rooms.BAN, Rooms.TEXT};
        for (int value : values) {
            MeshRoom room = new MeshRoom();
            for (int i = 0; i < kinds.length; i++) {
                String told = "branch of kind " + kinds[i] + " with " + value;
                CHECK.due(told, room.branch(0, kinds[i], 0, value, 2), 3 + i);
                CHECK.due("value by " + told, room.event(3 + i, 3), kinds[i] == Rooms.TEXT ? value : 0);
            }
        }
    }

    // Promise 3: "or prev is not held by the user's server"; the events are as in statusRoom.
    private static void branchPrev() {
        range("branch(0, TEXT, 0, 0, prev)", RangesTest::statusRoom,
                (room, prev) -> room.branch(0, Rooms.TEXT, 0, 0, prev), 1, same(8, 6));
        range("linked to the prev by branch(0, TEXT, 0, 0, prev)", RangesTest::statusRoom, (room, prev) -> {
            int made = room.branch(0, Rooms.TEXT, 0, 0, prev);
            return made == NONE ? NONE : room.linked(made, prev) & 1;
        }, 1, same(1, 6));
        range("branch(1, TEXT, 0, 0, prev)", RangesTest::statusRoom,
                (room, prev) -> room.branch(1, Rooms.TEXT, 0, 0, prev), 1, same(8, 4));
        range("branch(5, TEXT, 0, 0, prev)", RangesTest::statusRoom,
                (room, prev) -> room.branch(5, Rooms.TEXT, 0, 0, prev), 1, same(8, 4));
        CHECK.due("status of a prev that lacks", statusRoom().status(1, 5), 0);
        CHECK.due("status of a prev that is pending", statusRoom().status(1, 6), 1);
        CHECK.due("status of a prev that was refused", statusRoom().status(1, 7), 3);
        range("branch(0, TEXT, 0, 0, prev) for the 40th event", () -> Rooms.withTexts(39),
                (room, prev) -> room.branch(0, Rooms.TEXT, 0, 0, prev), 1, same(40, 39));
        range("branch(1, TEXT, 0, 0, prev) for the 40th event", () -> Rooms.withTexts(39),
                (room, prev) -> room.branch(1, Rooms.TEXT, 0, 0, prev), 1, 40, 40);
    }

    // Promise 4: "Now grows by n: true; false (refused) when n is not 0 .. 1000."
    private static void tickLength() {
        range("tick(n)", MeshRoom::new, (room, n) -> room.tick(n) ? 1 : 0, 0, same(1, 1001), 0);
        int[] times = upTo(7, 1007);
        range("the time after tick(n)", MeshRoom::new, (room, n) -> {
            room.tick(7);
            room.tick(n);
            return room.event(room.act(0, Rooms.TEXT, 0, 0), 4);
        }, 0, times, 7);
    }

    // Promise 5: "false (refused) when p is not 0 .. 2"
    private static void offsetServer() {
        range("offset(p, 9)", MeshRoom::new, (room, p) -> room.offset(p, 9) ? 1 : 0, 0, same(1, 3), 0);
        range("the times after offset(p, 9)", MeshRoom::new, (room, p) -> {
            room.offset(p, 9);
            return time(room, 0) + 10 * time(room, 1) + 100 * time(room, 2);
        }, 0, new int[] {9, 90, 900}, 0);
    }

    private static int time(MeshRoom room, int u) {
        return room.event(room.branch(u, Rooms.TEXT, 0, 0, 2), 4);
    }

    // Promise 5: "or d not -50 .. 50"
    private static void offsetSize() {
        for (int p = 0; p < 3; p++) {
            int server = p;
            range("offset(" + p + ", d)", MeshRoom::new,
                    (room, d) -> room.offset(server, d) ? 1 : 0, -50, same(1, 101), 0);
            range("the time after offset(" + p + ", d)", MeshRoom::new, (room, d) -> {
                room.offset(server, 3);
                room.offset(server, d);
                return time(room, server + 3);
            }, -50, upTo(-50, 50), 3);
        }
    }

    // Promise 6: "NONE (refused) when p or q is not 0 .. 2, or they are the same."
    private static void offerServers() {
        int[] servers = {0, 1, 2, -1, 3, -2, 4, 64, 256, MAX, MIN};
        for (int p : servers) {
            for (int q : servers) {
                MeshRoom room = new MeshRoom();
                boolean taken = p >= 0 && p <= 2 && q >= 0 && q <= 2 && p != q;
                String call = "offer(" + p + ", " + q + ")";
                CHECK.due(call, room.offer(p, q), taken ? 1 : NONE);
                CHECK.due("flying() after " + call, room.flying(), taken ? 1 : 0);
                CHECK.due("message(0) after " + call, room.message(0),
                        taken ? 2 + 64 * q + 256 * p + 1024 : NONE);
            }
        }
    }

    // Promises 7 to 9 and 11: "NONE when there is none", "false when there is none"
    private static void messagePlaces() {
        int[] counts = {0, 1, 2, 23, 24};
        for (int count : counts) {
            Supplier<MeshRoom> rooms = () -> Rooms.withFlying(count);
            String fly = " where " + count + " fly";
            range("deliver(k)" + fly, rooms, MeshRoom::deliver, 0, same(1, count));
            range("lose(k)" + fly, rooms, MeshRoom::lose, 0, same(1, count));
            range("spoil(k)" + fly, rooms, (room, k) -> room.spoil(k) ? 1 : 0, 0, same(1, count), 0);
            range("message(k)" + fly, rooms, MeshRoom::message, 0, Rooms.codesOfFlying(count));
            range("flying() after deliver(k)" + fly, rooms, (room, k) -> {
                room.spoil(k);
                room.deliver(k);
                return room.flying();
            }, 0, same(count - 1, count), count);
            range("flying() after lose(k)" + fly, rooms, (room, k) -> {
                room.lose(k);
                return room.flying();
            }, 0, same(count - 1, count), count);
        }
    }

    /**
     * At server 0 the events 1 .. 6 are held and 7 is refused; at server 1 the events 1 .. 4 are held,
     * 5 is lacking, 6 pending and 7 refused; at server 2 the events 1 .. 4 are held and 5 .. 7 lacking.
     */
    private static MeshRoom statusRoom() {
        MeshRoom room = Rooms.withMembers(1);
        room.act(0, Rooms.TEXT, 0, 0);
        room.act(0, Rooms.TEXT, 0, 0);
        room.branch(3, Rooms.TEXT, 0, 0, 2);
        room.deliver(2);
        room.deliver(3);
        return room;
    }

    // Promise 12: "NONE when p is not 0 .. 2"
    private static void statusServer() {
        int[][] rows = {{2, 2, 2}, {2, 2, 2}, {2, 2, 2}, {2, 2, 2}, {2, 0, 0}, {2, 1, 0}, {3, 3, 0}};
        for (int e = 1; e <= 7; e++) {
            int event = e;
            range("status(p, " + e + ")", RangesTest::statusRoom, (room, p) -> room.status(p, event), 0,
                    rows[e - 1]);
        }
    }

    // Promise 12: "or there is no event e"
    private static void statusEvent() {
        int[][] rows = {{2, 2, 2, 2, 2, 2, 3}, {2, 2, 2, 2, 0, 1, 3}, {2, 2, 2, 2, 0, 0, 0}};
        for (int p = 0; p < 3; p++) {
            int server = p;
            range("status(" + p + ", e)", RangesTest::statusRoom, (room, e) -> room.status(server, e), 1,
                    rows[p]);
            range("status(" + p + ", e) in a new room", MeshRoom::new, (room, e) -> room.status(server, e), 1,
                    2, 2);
        }
        range("status(0, e) of 40", () -> Rooms.withTexts(40), (room, e) -> room.status(0, e), 1, same(2, 40));
        int[] unheard = new int[40];
        unheard[0] = 2;
        unheard[1] = 2;
        range("status(2, e) of 40", () -> Rooms.withTexts(40), (room, e) -> room.status(2, e), 1, unheard);
    }

    // Promise 13: "NONE when p is not 0 .. 2."
    private static void endsServer() {
        range("ends(p) in a new room", MeshRoom::new, MeshRoom::ends, 0, 1, 1, 1);
        range("ends(p)", () -> {
            MeshRoom room = new MeshRoom();
            for (int e = 3; e <= 5; e++) {
                room.branch(0, Rooms.TEXT, 0, 0, 2);
            }
            room.deliver(0);
            room.deliver(1);
            return room;
        }, MeshRoom::ends, 0, 3, 2, 1);
    }

    /** All keys but that of user 4 have an event at server 0; at server 1 that of user 5 lacks, too. */
    private static MeshRoom keyRoom() {
        MeshRoom room = Rooms.withMembers(3);
        Rooms.told(room, 0, Rooms.LEVELS, 2, 1);
        room.act(0, Rooms.BAN, 5, 0);
        room.deliver(1);
        return room;
    }

    // Promise 14: "0 without one; NONE when p is not 0 .. 2 or key not 0 .. 8."
    private static void currentServerAndKey() {
        int[][] rows = {
            {1, 7, 3, 2, 4, 5, 6, 0, 8}, {1, 7, 3, 2, 4, 5, 6, 0, 0}, {1, 7, 3, 2, 4, 5, 6, 0, 8},
        };
        for (int p = 0; p < 3; p++) {
            int server = p;
            range("current(" + p + ", key)", RangesTest::keyRoom, (room, key) -> room.current(server, key), 0,
                    rows[p]);
            range("current(" + p + ", key) in a new room", MeshRoom::new,
                    (room, key) -> room.current(server, key), 0, 1, 0, 0, 2, 0, 0, 0, 0, 0);
        }
        for (int k = 0; k < 9; k++) {
            int key = k;
            range("current(p, " + k + ")", RangesTest::keyRoom, (room, p) -> room.current(p, key), 0,
                    rows[0][k], rows[1][k], rows[2][k]);
        }
    }

    // Promise 15: "(0 without one)", "NONE when p is not 0 .. 2 or u not 0 .. 5."
    private static void memberServerAndUser() {
        int[][] rows = {{25, 1, 9, 1, 0, 4}, {25, 1, 9, 1, 0, 0}, {25, 1, 9, 1, 0, 4}};
        for (int p = 0; p < 3; p++) {
            int server = p;
            range("member(" + p + ", u)", RangesTest::keyRoom, (room, u) -> room.member(server, u), 0, rows[p]);
            range("member(" + p + ", u) in a new room", MeshRoom::new,
                    (room, u) -> room.member(server, u), 0, 25, 0, 0, 0, 0, 0);
        }
        for (int u = 0; u < 6; u++) {
            int user = u;
            range("member(p, " + u + ")", RangesTest::keyRoom, (room, p) -> room.member(p, user), 0,
                    rows[0][u], rows[1][u], rows[2][u]);
        }
    }

    // Promise 16: "0 without one; NONE when there is no event e or key is not 0 .. 8."
    private static void afterEventAndKey() {
        int[][] rows = {
            {1, 0, 0, 0, 0, 0, 0, 0, 0}, {1, 0, 0, 2, 0, 0, 0, 0, 0}, {1, 0, 3, 2, 0, 0, 0, 0, 0},
            {1, 0, 3, 2, 4, 0, 0, 0, 0}, {1, 0, 3, 2, 4, 5, 0, 0, 0}, {1, 0, 3, 2, 4, 5, 6, 0, 0},
            {1, 7, 3, 2, 4, 5, 6, 0, 0}, {1, 7, 3, 2, 4, 5, 6, 0, 8},
        };
        for (int e = 1; e <= 8; e++) {
            int event = e;
            range("after(" + e + ", key)", RangesTest::keyRoom, (room, key) -> room.after(event, key), 0,
                    rows[e - 1]);
        }
        range("after(e, 0)", RangesTest::keyRoom, (room, e) -> room.after(e, 0), 1, same(1, 8));
        range("after(e, 8)", RangesTest::keyRoom, (room, e) -> room.after(e, 8), 1, 0, 0, 0, 0, 0, 0, 0, 8);
        range("after(e, 0) in a new room", MeshRoom::new, (room, e) -> room.after(e, 0), 1, 1, 1);
        range("after(e, 0) of 40", () -> Rooms.withTexts(40), (room, e) -> room.after(e, 0), 1, same(1, 40));
        CHECK.due("after(0, 9)", keyRoom().after(0, 9), NONE);
        CHECK.due("after(9, -1)", keyRoom().after(9, -1), NONE);
    }

    // Promise 17: "NONE when there is no event e or what is none of these."
    private static void eventAndWhat() {
        int[][] rows = {
            {0, 0, 0, 0, 0, 0, 0, 0, 1}, {1, 0, 0, 0, 0, 1, 1, 1, 1}, {6, 0, 0, 1, 0, 1, 2, 2, 1},
            {1, 1, 1, 0, 0, 1, 2, 3, 1}, {1, 2, 2, 0, 0, 1, 2, 3, 1}, {1, 3, 3, 0, 0, 1, 2, 3, 1},
            {5, 0, 2, 19, 0, 1, 2, 2, 1}, {4, 0, 5, 0, 0, 1, 3, 3, 1},
        };
        for (int e = 1; e <= 8; e++) {
            int event = e;
            range("event(" + e + ", what)", RangesTest::keyRoom, (room, what) -> room.event(event, what), 0,
                    rows[e - 1]);
        }
        range("event(e, 0)", RangesTest::keyRoom, (room, e) -> room.event(e, 0), 1, 0, 1, 6, 1, 1, 1, 5, 4);
        range("event(e, 8)", RangesTest::statusRoom, (room, e) -> room.event(e, 8), 1, 1, 1, 1, 1, 1, 1, 0);
        range("event(e, 0) in a new room", MeshRoom::new, (room, e) -> room.event(e, 0), 1, 0, 1);
        int[] values = upTo(1, 40);
        values[0] = 0;
        values[1] = 0;
        range("event(e, 3) of 40", () -> Rooms.withTexts(40), (room, e) -> room.event(e, 3), 1, values);
        CHECK.due("event(0, 9)", keyRoom().event(0, 9), NONE);
        CHECK.due("event(9, -1)", keyRoom().event(9, -1), NONE);
    }

    // Promise 18: "0 when there is no event e or f."
    private static void linkedEvents() {
        int[][] rows = {
            {0, 0, 0, 0, 0, 0, 0, 0}, {7, 0, 0, 0, 0, 0, 0, 0}, {6, 7, 0, 0, 0, 0, 0, 0},
            {6, 4, 7, 0, 0, 0, 0, 0}, {6, 4, 6, 1, 0, 0, 0, 0}, {6, 4, 6, 0, 1, 0, 0, 0},
            {6, 6, 0, 0, 0, 1, 0, 0}, {6, 6, 0, 0, 0, 0, 7, 0},
        };
        for (int i = 1; i <= 8; i++) {
            int event = i;
            int[] column = new int[8];
            for (int e = 0; e < 8; e++) {
                column[e] = rows[e][i - 1];
            }
            range("linked(" + i + ", f)", RangesTest::keyRoom, (room, f) -> room.linked(event, f), 1,
                    rows[i - 1], 0);
            range("linked(e, " + i + ")", RangesTest::keyRoom, (room, e) -> room.linked(e, event), 1, column, 0);
        }
        int[] last = new int[40];
        last[0] = 6;
        last[1] = 6;
        last[38] = 1;
        range("linked(40, f) of 40", () -> Rooms.withTexts(40), (room, f) -> room.linked(40, f), 1, last, 0);
        for (int wrong : new int[] {0, -1, 9, 41, 65, MIN, MAX}) {
            CHECK.due("linked(" + wrong + ", same)", keyRoom().linked(wrong, wrong), 0);
        }
    }
}
