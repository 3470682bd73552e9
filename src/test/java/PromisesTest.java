/** Each promise with ordinary inputs, the edges that the document names, and wrong inputs. */
public final class PromisesTest {
    private static final Check CHECK = new Check("PromisesTest");
    private static final int NONE = MeshRoom.NONE;

    public static void main(String[] args) {
        newObject();
        actRefusesWrongInputs();
        actMakesAndSends();
        actTakesAllEnds();
        actStopsAtForty();
        actJoin();
        actInvite();
        actOwnLeave();
        actLeaveOfAnother();
        actBan();
        actLevels();
        actRuleAndText();
        branch();
        branchRefusesWrongInputs();
        branchNeedsAHeldPrev();
        branchStopsAtForty();
        tick();
        offset();
        offer();
        deliverInOrder();
        deliverOutOfOrder();
        deliverAsksForAllThatLack();
        deliverAsksForWhatIsPending();
        deliverFreesItsPlace();
        deliverSettlesAtMostOnce();
        lose();
        spoil();
        flyingAndMessage();
        status();
        ends();
        current();
        member();
        after();
        event();
        linked();
        authsOfEachKind();
        CHECK.end();
    }

    private static void newObject() {
        MeshRoom room = new MeshRoom();
        CHECK.due("flying()", room.flying(), 0);
        CHECK.due("message(0)", room.message(0), NONE);
        for (int p = 0; p < 3; p++) {
            CHECK.due("status(" + p + ", 1)", room.status(p, 1), 2);
            CHECK.due("status(" + p + ", 2)", room.status(p, 2), 2);
            CHECK.due("status(" + p + ", 3)", room.status(p, 3), NONE);
            CHECK.due("ends(" + p + ")", room.ends(p), 1);
            int[] state = {1, 0, 0, 2, 0, 0, 0, 0, 0};
            for (int key = 0; key < 9; key++) {
                CHECK.due("current(" + p + ", " + key + ")", room.current(p, key), state[key]);
            }
            CHECK.due("member(" + p + ", 0)", room.member(p, 0), 25);
            CHECK.due("member(" + p + ", 1)", room.member(p, 1), 0);
        }
        int[] create = {0, 0, 0, 0, 0, 0, 0, 0, 1};
        int[] join = {1, 0, 0, 0, 0, 1, 1, 1, 1};
        for (int what = 0; what < 9; what++) {
            CHECK.due("event(1, " + what + ")", room.event(1, what), create[what]);
            CHECK.due("event(2, " + what + ")", room.event(2, what), join[what]);
        }
        CHECK.due("after(1, 0)", room.after(1, 0), 1);
        CHECK.due("after(1, 3)", room.after(1, 3), 0);
        CHECK.due("after(2, 0)", room.after(2, 0), 1);
        CHECK.due("after(2, 3)", room.after(2, 3), 2);
    }

    private static void actRefusesWrongInputs() {
        MeshRoom room = new MeshRoom();
        int[][] wrong = {
            {-1, 7, 0, 0}, {6, 7, 0, 0}, {Integer.MIN_VALUE, 7, 0, 0}, {Integer.MAX_VALUE, 7, 0, 0},
            {0, 7, -1, 0}, {0, 7, 6, 0}, {0, 7, Integer.MIN_VALUE, 0}, {0, 7, Integer.MAX_VALUE, 0},
            {0, 0, 0, 0}, {0, -1, 0, 0}, {0, 8, 0, 0}, {0, Integer.MAX_VALUE, 0, 0},
            {0, 5, 1, -1}, {0, 5, 1, 4}, {0, 5, 1, Integer.MAX_VALUE},
            {0, 6, 0, -1}, {0, 6, 0, 2}, {0, 6, 0, Integer.MIN_VALUE},
        };
        for (int[] w : wrong) {
            CHECK.due("act(" + w[0] + ", " + w[1] + ", " + w[2] + ", " + w[3] + ")",
                    room.act(w[0], w[1], w[2], w[3]), NONE);
        }
        CHECK.due("flying() after refusals", room.flying(), 0);
        CHECK.due("status(0, 3) after refusals", room.status(0, 3), NONE);
        CHECK.due("act not allowed", room.act(1, Rooms.TEXT, 0, 0), NONE);
        CHECK.due("flying() after what was not allowed", room.flying(), 0);
        CHECK.due("ends(1) after what was not allowed", room.ends(1), 1);
        CHECK.due("the next number", room.act(0, Rooms.TEXT, 0, 0), 3);
    }

    private static void actMakesAndSends() {
        MeshRoom room = Rooms.withMembers(2);
        room.tick(7);
        CHECK.due("text of user 1", room.act(1, Rooms.TEXT, 5, Integer.MIN_VALUE), 6);
        int[] text = {7, 1, 5, Integer.MIN_VALUE, 7, 1, 2, 4, 1};
        for (int what = 0; what < 9; what++) {
            CHECK.due("event(6, " + what + ")", room.event(6, what), text[what]);
        }
        CHECK.due("held at home", room.status(1, 6), 2);
        CHECK.due("lacking elsewhere", room.status(0, 6), 0);
        CHECK.due("flying()", room.flying(), 2);
        CHECK.due("first to server 0", room.message(0), 6 + 256 + 1024);
        CHECK.due("then to server 2", room.message(1), 6 + 128 + 256 + 1024);
        CHECK.due("text of user 2", room.act(2, Rooms.TEXT, 0, 9), 7);
        CHECK.due("from 2 to 0", room.message(2), 7 + 512 + 1024);
        CHECK.due("from 2 to 1", room.message(3), 7 + 64 + 512 + 1024);
        CHECK.due("an invite with a value", room.act(1, Rooms.INVITE, 5, 44), 8);
        CHECK.due("whose value is 0", room.event(8, 3), 0);
    }

    private static void actTakesAllEnds() {
        MeshRoom room = Rooms.withMembers(2);
        CHECK.due("text at server 0", room.act(0, Rooms.TEXT, 0, 0), 6);
        CHECK.due("text at server 1", room.act(1, Rooms.TEXT, 0, 0), 7);
        Rooms.deliverAll(room);
        CHECK.due("ends(2) of the fork", room.ends(2), 2);
        CHECK.due("text at server 2", room.act(2, Rooms.TEXT, 0, 0), 8);
        CHECK.due("prevs", room.event(8, 5), 2);
        CHECK.due("linked(8, 6)", room.linked(8, 6), 1);
        CHECK.due("linked(8, 7)", room.linked(8, 7), 1);
        CHECK.due("ends(2)", room.ends(2), 1);
        CHECK.due("ends(0)", room.ends(0), 2);
    }

    private static void actStopsAtForty() {
        MeshRoom room = new MeshRoom();
        for (int e = 3; e <= 40; e++) {
            CHECK.due("text " + e, room.act(0, Rooms.TEXT, 0, e), e);
        }
        CHECK.due("a 41st event", room.act(0, Rooms.TEXT, 0, 0), NONE);
        CHECK.due("status(0, 41)", room.status(0, 41), NONE);
        CHECK.due("event(40, 3)", room.event(40, 3), 40);
        CHECK.due("linked(40, 39)", room.linked(40, 39), 1);
        CHECK.due("flying()", room.flying(), 24);
    }

    private static void actJoin() {
        MeshRoom room = new MeshRoom();
        CHECK.due("closed room", room.act(1, Rooms.JOIN, 1, 0), NONE);
        CHECK.due("invite", Rooms.told(room, 0, Rooms.INVITE, 1, 0), 3);
        CHECK.due("for another", room.act(0, Rooms.JOIN, 1, 0), NONE);
        CHECK.due("invited", Rooms.told(room, 1, Rooms.JOIN, 1, 0), 4);
        CHECK.due("joined already", Rooms.told(room, 1, Rooms.JOIN, 1, 0), 5);
        CHECK.due("leave", Rooms.told(room, 1, Rooms.LEAVE, 1, 0), 6);
        CHECK.due("left a closed room", room.act(1, Rooms.JOIN, 1, 0), NONE);
        CHECK.due("open", Rooms.told(room, 0, Rooms.RULE, 0, 1), 7);
        CHECK.due("left an open room", Rooms.told(room, 1, Rooms.JOIN, 1, 0), 8);
        CHECK.due("open room", Rooms.told(room, 2, Rooms.JOIN, 2, 0), 9);
        CHECK.due("open room, for another", room.act(0, Rooms.JOIN, 3, 0), NONE);
        CHECK.due("ban", Rooms.told(room, 0, Rooms.BAN, 2, 0), 10);
        CHECK.due("banned from an open room", room.act(2, Rooms.JOIN, 2, 0), NONE);
        CHECK.due("close", Rooms.told(room, 0, Rooms.RULE, 0, 0), 11);
        CHECK.due("closed again", room.act(3, Rooms.JOIN, 3, 0), NONE);
        CHECK.due("user 0 leaves", Rooms.told(room, 0, Rooms.LEAVE, 0, 0), 12);
        CHECK.due("the maker of a closed room", room.act(0, Rooms.JOIN, 0, 0), NONE);
    }

    private static void actInvite() {
        MeshRoom room = Rooms.withMembers(1);
        CHECK.due("by one outside", room.act(2, Rooms.INVITE, 3, 0), NONE);
        CHECK.due("by a member of level 0", Rooms.told(room, 1, Rooms.INVITE, 2, 0), 5);
        CHECK.due("invited already", Rooms.told(room, 0, Rooms.INVITE, 2, 0), 6);
        CHECK.due("by one invited", room.act(2, Rooms.INVITE, 3, 0), NONE);
        CHECK.due("a member", room.act(0, Rooms.INVITE, 1, 0), NONE);
        CHECK.due("oneself", room.act(0, Rooms.INVITE, 0, 0), NONE);
        CHECK.due("leave", Rooms.told(room, 2, Rooms.LEAVE, 2, 0), 7);
        CHECK.due("one who left", Rooms.told(room, 1, Rooms.INVITE, 2, 0), 8);
        CHECK.due("ban", Rooms.told(room, 0, Rooms.BAN, 2, 0), 9);
        CHECK.due("one banned", room.act(0, Rooms.INVITE, 2, 0), NONE);
    }

    private static void actOwnLeave() {
        MeshRoom room = Rooms.withMembers(1);
        CHECK.due("never there", room.act(2, Rooms.LEAVE, 2, 0), NONE);
        CHECK.due("a member", Rooms.told(room, 1, Rooms.LEAVE, 1, 0), 5);
        CHECK.due("left already", room.act(1, Rooms.LEAVE, 1, 0), NONE);
        CHECK.due("invite", Rooms.told(room, 0, Rooms.INVITE, 1, 0), 6);
        CHECK.due("invited", Rooms.told(room, 1, Rooms.LEAVE, 1, 0), 7);
        CHECK.due("ban", Rooms.told(room, 0, Rooms.BAN, 1, 0), 8);
        CHECK.due("banned", room.act(1, Rooms.LEAVE, 1, 0), NONE);
    }

    private static void actLeaveOfAnother() {
        MeshRoom room = Rooms.withMembers(3);
        CHECK.due("level 0", room.act(1, Rooms.LEAVE, 2, 0), NONE);
        CHECK.due("level 1 for user 1", Rooms.told(room, 0, Rooms.LEVELS, 1, 1), 7);
        CHECK.due("level 1 over level 0", room.act(1, Rooms.LEAVE, 2, 0), NONE);
        CHECK.due("level 2 for user 1", Rooms.told(room, 0, Rooms.LEVELS, 1, 2), 8);
        CHECK.due("level 2 for user 2", Rooms.told(room, 0, Rooms.LEVELS, 2, 2), 9);
        CHECK.due("over one's equal", room.act(1, Rooms.LEAVE, 2, 0), NONE);
        CHECK.due("over a greater one", room.act(1, Rooms.LEAVE, 0, 0), NONE);
        CHECK.due("a member", Rooms.told(room, 1, Rooms.LEAVE, 3, 0), 10);
        CHECK.due("one who left", room.act(1, Rooms.LEAVE, 3, 0), NONE);
        CHECK.due("one never there", room.act(1, Rooms.LEAVE, 4, 0), NONE);
        CHECK.due("invite", Rooms.told(room, 0, Rooms.INVITE, 4, 0), 11);
        CHECK.due("one invited", Rooms.told(room, 1, Rooms.LEAVE, 4, 0), 12);
        CHECK.due("ban", Rooms.told(room, 0, Rooms.BAN, 5, 0), 13);
        CHECK.due("one banned", Rooms.told(room, 1, Rooms.LEAVE, 5, 0), 14);
        CHECK.due("membership after it", room.member(2, 5), 3);
        CHECK.due("user 1 leaves", Rooms.told(room, 1, Rooms.LEAVE, 1, 0), 15);
        CHECK.due("invite again", Rooms.told(room, 0, Rooms.INVITE, 4, 0), 16);
        CHECK.due("by one who left", room.act(1, Rooms.LEAVE, 4, 0), NONE);
    }

    private static void actBan() {
        MeshRoom room = Rooms.withMembers(3);
        CHECK.due("level 0", room.act(1, Rooms.BAN, 4, 0), NONE);
        CHECK.due("level 1 for user 1", Rooms.told(room, 0, Rooms.LEVELS, 1, 1), 7);
        CHECK.due("level 1 over level 0", room.act(1, Rooms.BAN, 4, 0), NONE);
        CHECK.due("level 2 for user 1", Rooms.told(room, 0, Rooms.LEVELS, 1, 2), 8);
        CHECK.due("level 2 for user 2", Rooms.told(room, 0, Rooms.LEVELS, 2, 2), 9);
        CHECK.due("one's equal", room.act(1, Rooms.BAN, 2, 0), NONE);
        CHECK.due("a greater one", room.act(1, Rooms.BAN, 0, 0), NONE);
        CHECK.due("oneself", room.act(0, Rooms.BAN, 0, 0), NONE);
        CHECK.due("a member", Rooms.told(room, 1, Rooms.BAN, 3, 0), 10);
        CHECK.due("one banned already", Rooms.told(room, 0, Rooms.BAN, 3, 0), 11);
        CHECK.due("one never there", Rooms.told(room, 1, Rooms.BAN, 4, 0), 12);
        CHECK.due("user 1 leaves", Rooms.told(room, 1, Rooms.LEAVE, 1, 0), 13);
        CHECK.due("by one who left", room.act(1, Rooms.BAN, 5, 0), NONE);
    }

    private static void actLevels() {
        MeshRoom room = Rooms.withMembers(3);
        CHECK.due("by level 0", room.act(1, Rooms.LEVELS, 1, 0), NONE);
        CHECK.due("level 2 for user 1", Rooms.told(room, 0, Rooms.LEVELS, 1, 2), 7);
        CHECK.due("its value", room.event(7, 3), 3 + (2 << 2));
        CHECK.due("up to one's own level", Rooms.told(room, 1, Rooms.LEVELS, 5, 2), 8);
        CHECK.due("its value", room.event(8, 3), 3 + (2 << 2) + (2 << 10));
        CHECK.due("down from one's own level", room.act(1, Rooms.LEVELS, 5, 1), NONE);
        CHECK.due("above one's own level", room.act(1, Rooms.LEVELS, 2, 3), NONE);
        CHECK.due("oneself above it", room.act(1, Rooms.LEVELS, 1, 3), NONE);
        CHECK.due("down from above it", room.act(1, Rooms.LEVELS, 0, 0), NONE);
        CHECK.due("unchanged above it", Rooms.told(room, 1, Rooms.LEVELS, 0, 3), 9);
        CHECK.due("level 3 for user 2", Rooms.told(room, 0, Rooms.LEVELS, 2, 3), 10);
        CHECK.due("its value", room.event(10, 3), 3 + (2 << 2) + (3 << 4) + (2 << 10));
        CHECK.due("by one outside", room.act(5, Rooms.LEVELS, 4, 1), NONE);
        CHECK.due("oneself down", Rooms.told(room, 1, Rooms.LEVELS, 1, 1), 11);
        CHECK.due("by level 1", room.act(1, Rooms.LEVELS, 4, 1), NONE);
        CHECK.due("down from one's own level 3", room.act(0, Rooms.LEVELS, 2, 2), NONE);
        CHECK.due("the maker of the room down", Rooms.told(room, 0, Rooms.LEVELS, 0, 0), 12);
        CHECK.due("has no level then", room.member(1, 0), 1);
        CHECK.due("and may do no more", room.act(0, Rooms.LEVELS, 0, 1), NONE);
    }

    private static void actRuleAndText() {
        MeshRoom room = Rooms.withMembers(2);
        CHECK.due("rule by level 0", room.act(1, Rooms.RULE, 0, 0), NONE);
        CHECK.due("level 1", Rooms.told(room, 0, Rooms.LEVELS, 1, 1), 6);
        CHECK.due("rule by level 1", room.act(1, Rooms.RULE, 0, 0), NONE);
        CHECK.due("level 2", Rooms.told(room, 0, Rooms.LEVELS, 1, 2), 7);
        CHECK.due("rule by level 2", Rooms.told(room, 1, Rooms.RULE, 4, 0), 8);
        CHECK.due("its value", room.event(8, 3), 0);
        CHECK.due("open again", Rooms.told(room, 1, Rooms.RULE, 4, 1), 9);
        CHECK.due("its value", room.event(9, 3), 1);
        CHECK.due("text by level 0", Rooms.told(room, 2, Rooms.TEXT, 3, Integer.MAX_VALUE), 10);
        CHECK.due("its value", room.event(10, 3), Integer.MAX_VALUE);
        CHECK.due("text by one outside", room.act(3, Rooms.TEXT, 0, 0), NONE);
        CHECK.due("invite", Rooms.told(room, 0, Rooms.INVITE, 3, 0), 11);
        CHECK.due("text by one invited", room.act(3, Rooms.TEXT, 0, 0), NONE);
        CHECK.due("user 1 leaves", Rooms.told(room, 1, Rooms.LEAVE, 1, 0), 12);
        CHECK.due("rule by one who left", room.act(1, Rooms.RULE, 0, 0), NONE);
        CHECK.due("text by one who left", room.act(1, Rooms.TEXT, 0, 0), NONE);
    }

    private static void branch() {
        MeshRoom room = new MeshRoom();
        CHECK.due("a good text", room.branch(0, Rooms.TEXT, 0, 5, 2), 3);
        CHECK.due("status(0, 3)", room.status(0, 3), 2);
        CHECK.due("a text before the join", room.branch(0, Rooms.TEXT, 0, 5, 1), 4);
        CHECK.due("status(0, 4)", room.status(0, 4), 3);
        CHECK.due("ends(0)", room.ends(0), 1);
        CHECK.due("flying()", room.flying(), 4);
        CHECK.due("message(2)", room.message(2), 4 + 64 + 1024);
        CHECK.due("message(3)", room.message(3), 4 + 128 + 1024);
        int[] text = {7, 0, 0, 5, 0, 1, 1, 1, 0};
        for (int what = 0; what < 9; what++) {
            CHECK.due("event(4, " + what + ")", room.event(4, what), text[what]);
        }
        CHECK.due("another first join", room.branch(0, Rooms.JOIN, 0, 0, 1), 5);
        CHECK.due("event(5, 8)", room.event(5, 8), 1);
        CHECK.due("after(5, 3)", room.after(5, 3), 5);
        CHECK.due("a first join by another", room.branch(3, Rooms.JOIN, 3, 0, 1), 6);
        CHECK.due("event(6, 8)", room.event(6, 8), 0);
        CHECK.due("levels", room.branch(0, Rooms.LEVELS, 1, 2, 2), 7);
        CHECK.due("event(7, 3)", room.event(7, 3), 11);
        CHECK.due("linked(7, 2)", room.linked(7, 2), 7);
        CHECK.due("linked(7, 3)", room.linked(7, 3), 0);
        CHECK.due("bad levels", room.branch(3, Rooms.LEVELS, 1, 1, 7), 8);
        CHECK.due("event(8, 3)", room.event(8, 3), 7);
        CHECK.due("event(8, 8)", room.event(8, 8), 0);
        CHECK.due("after(8, 1)", room.after(8, 1), 7);
    }

    private static void branchRefusesWrongInputs() {
        MeshRoom room = new MeshRoom();
        int[][] wrong = {
            {-1, 7, 0, 0, 2}, {6, 7, 0, 0, 2}, {Integer.MIN_VALUE, 7, 0, 0, 2},
            {0, 7, -1, 0, 2}, {0, 7, 6, 0, 2}, {0, 7, Integer.MAX_VALUE, 0, 2},
            {0, 0, 0, 0, 2}, {0, -1, 0, 0, 2}, {0, 8, 0, 0, 2},
            {0, 5, 1, -1, 2}, {0, 5, 1, 4, 2}, {0, 6, 0, -1, 2}, {0, 6, 0, 2, 2},
            {0, 7, 0, 0, 0}, {0, 7, 0, 0, 3}, {0, 7, 0, 0, -1}, {0, 7, 0, 0, 65}, {0, 7, 0, 0, 66},
            {0, 7, 0, 0, Integer.MAX_VALUE}, {0, 7, 0, 0, Integer.MIN_VALUE},
        };
        for (int[] w : wrong) {
            CHECK.due("branch(" + w[0] + ", " + w[1] + ", " + w[2] + ", " + w[3] + ", " + w[4] + ")",
                    room.branch(w[0], w[1], w[2], w[3], w[4]), NONE);
        }
        CHECK.due("flying() after refusals", room.flying(), 0);
        CHECK.due("the next number", room.branch(0, Rooms.TEXT, 0, 0, 2), 3);
    }

    private static void branchNeedsAHeldPrev() {
        MeshRoom room = new MeshRoom();
        room.act(0, Rooms.TEXT, 0, 0);
        room.act(0, Rooms.TEXT, 0, 0);
        CHECK.due("a prev lacking", room.branch(1, Rooms.TEXT, 0, 0, 4), NONE);
        CHECK.due("event 4 to server 1", room.deliver(2), 1);
        CHECK.due("status(1, 4)", room.status(1, 4), 1);
        CHECK.due("a prev pending", room.branch(1, Rooms.TEXT, 0, 0, 4), NONE);
        CHECK.due("event 3 to server 1", room.deliver(0), 1);
        CHECK.due("a prev held", room.branch(1, Rooms.TEXT, 0, 0, 4), 5);
        CHECK.due("status(1, 5)", room.status(1, 5), 3);
        CHECK.due("a prev refused", room.branch(1, Rooms.TEXT, 0, 0, 5), NONE);
        CHECK.due("a prev held, not an end", room.branch(0, Rooms.TEXT, 0, 0, 3), 6);
        CHECK.due("ends(0)", room.ends(0), 2);
    }

    private static void branchStopsAtForty() {
        MeshRoom room = new MeshRoom();
        for (int e = 3; e <= 40; e++) {
            CHECK.due("branch " + e, room.branch(0, Rooms.TEXT, 0, e, 2), e);
        }
        CHECK.due("a 41st event", room.branch(0, Rooms.TEXT, 0, 0, 2), NONE);
        CHECK.due("ends(0)", room.ends(0), 38);
        Rooms.loseAll(room);
        CHECK.due("offer(0, 1)", room.offer(0, 1), 38);
        CHECK.due("flying()", room.flying(), 24);
    }

    private static void tick() {
        MeshRoom room = new MeshRoom();
        CHECK.due("tick(-1)", room.tick(-1), false);
        CHECK.due("tick(1001)", room.tick(1001), false);
        CHECK.due("tick(MIN)", room.tick(Integer.MIN_VALUE), false);
        CHECK.due("tick(MAX)", room.tick(Integer.MAX_VALUE), false);
        CHECK.due("tick(0)", room.tick(0), true);
        room.act(0, Rooms.TEXT, 0, 0);
        CHECK.due("time 0", room.event(3, 4), 0);
        CHECK.due("tick(1000)", room.tick(1000), true);
        CHECK.due("tick(1)", room.tick(1), true);
        room.act(0, Rooms.TEXT, 0, 0);
        CHECK.due("time 1001", room.event(4, 4), 1001);
        CHECK.due("time 0 as before", room.event(3, 4), 0);
    }

    private static void offset() {
        MeshRoom room = Rooms.withMembers(1);
        int[][] wrong = {{-1, 0}, {3, 0}, {Integer.MAX_VALUE, 0}, {0, 51}, {0, -51},
            {0, Integer.MIN_VALUE}, {0, Integer.MAX_VALUE}};
        for (int[] w : wrong) {
            CHECK.due("offset(" + w[0] + ", " + w[1] + ")", room.offset(w[0], w[1]), false);
        }
        CHECK.due("offset(0, 50)", room.offset(0, 50), true);
        CHECK.due("offset(1, -50)", room.offset(1, -50), true);
        room.tick(8);
        room.act(0, Rooms.TEXT, 0, 0);
        room.act(1, Rooms.TEXT, 0, 0);
        CHECK.due("time at server 0", room.event(5, 4), 58);
        CHECK.due("time at server 1", room.event(6, 4), -42);
        CHECK.due("offset(0, -3)", room.offset(0, -3), true);
        room.act(0, Rooms.TEXT, 0, 0);
        CHECK.due("the new time at server 0", room.event(7, 4), 5);
        CHECK.due("time of the event before", room.event(5, 4), 58);
        CHECK.due("offset(2, 0)", room.offset(2, 0), true);
    }

    private static void offer() {
        MeshRoom room = new MeshRoom();
        int[][] wrong = {{-1, 0}, {3, 0}, {0, -1}, {0, 3}, {0, 0}, {1, 1}, {2, 2}, {3, 3}};
        for (int[] w : wrong) {
            CHECK.due("offer(" + w[0] + ", " + w[1] + ")", room.offer(w[0], w[1]), NONE);
        }
        CHECK.due("flying() after refusals", room.flying(), 0);
        room.branch(0, Rooms.TEXT, 0, 0, 2);
        room.branch(0, Rooms.TEXT, 0, 0, 2);
        Rooms.loseAll(room);
        CHECK.due("offer(0, 2)", room.offer(0, 2), 2);
        CHECK.due("message(0)", room.message(0), 3 + 128 + 1024);
        CHECK.due("message(1)", room.message(1), 4 + 128 + 1024);
        CHECK.due("offer(1, 0)", room.offer(1, 0), 1);
        CHECK.due("message(2)", room.message(2), 2 + 256 + 1024);
        for (int turn = 0; turn < 10; turn++) {
            room.offer(0, 1);
        }
        CHECK.due("flying() before the last", room.flying(), 23);
        CHECK.due("one of two is lost", room.offer(0, 1), 2);
        CHECK.due("flying()", room.flying(), 24);
        CHECK.due("the lesser one flies", room.message(23), 3 + 64 + 1024);
        CHECK.due("both are lost", room.offer(0, 2), 2);
        CHECK.due("flying() still", room.flying(), 24);
    }

    private static void deliverInOrder() {
        MeshRoom room = new MeshRoom();
        CHECK.due("deliver(0) of none", room.deliver(0), NONE);
        room.act(0, Rooms.RULE, 0, 1);
        CHECK.due("deliver(-1)", room.deliver(-1), NONE);
        CHECK.due("deliver(2)", room.deliver(2), NONE);
        CHECK.due("deliver(MAX)", room.deliver(Integer.MAX_VALUE), NONE);
        CHECK.due("deliver(MIN)", room.deliver(Integer.MIN_VALUE), NONE);
        CHECK.due("deliver(1)", room.deliver(1), 1);
        CHECK.due("status(2, 3)", room.status(2, 3), 2);
        CHECK.due("status(1, 3)", room.status(1, 3), 0);
        CHECK.due("flying()", room.flying(), 1);
        CHECK.due("deliver(0)", room.deliver(0), 1);
        CHECK.due("status(1, 3)", room.status(1, 3), 2);
        room.branch(1, Rooms.TEXT, 0, 0, 3);
        CHECK.due("a bad event comes", room.deliver(0), 1);
        CHECK.due("status(0, 4)", room.status(0, 4), 3);
        CHECK.due("ends(0)", room.ends(0), 1);
    }

    private static void deliverOutOfOrder() {
        MeshRoom room = new MeshRoom();
        room.act(0, Rooms.TEXT, 0, 0);
        room.act(0, Rooms.TEXT, 0, 0);
        room.act(0, Rooms.TEXT, 0, 0);
        CHECK.due("event 5 to server 1", room.deliver(4), 1);
        CHECK.due("status(1, 5)", room.status(1, 5), 1);
        CHECK.due("want 4", room.message(5), 4 + 256 + 2048);
        CHECK.due("event 4 to server 1", room.deliver(2), 1);
        CHECK.due("status(1, 4)", room.status(1, 4), 1);
        CHECK.due("want 3", room.message(5), 3 + 256 + 2048);
        CHECK.due("ends(1)", room.ends(1), 1);
        CHECK.due("event 3 to server 1", room.deliver(0), 1);
        for (int e = 3; e <= 5; e++) {
            CHECK.due("status(1, " + e + ")", room.status(1, e), 2);
        }
        CHECK.due("ends(1)", room.ends(1), 1);
        CHECK.due("flying()", room.flying(), 5);
        CHECK.due("want 4 at server 0", room.deliver(3), 2);
        CHECK.due("is answered", room.message(4), 4 + 64 + 1024);
        CHECK.due("with what is held already", room.deliver(4), 1);
        CHECK.due("flying()", room.flying(), 4);
        CHECK.due("status(1, 4)", room.status(1, 4), 2);
    }

    private static void deliverAsksForAllThatLack() {
        MeshRoom room = Rooms.withMembers(0);
        room.act(1, Rooms.JOIN, 1, 0);
        CHECK.due("the join to server 0", room.deliver(0), 1);
        room.branch(0, Rooms.TEXT, 0, 0, 3);
        Rooms.loseAll(room);
        CHECK.due("a text with two prevs", room.act(0, Rooms.TEXT, 0, 0), 6);
        CHECK.due("to server 2", room.deliver(1), 1);
        CHECK.due("status(2, 6)", room.status(2, 6), 1);
        CHECK.due("status(2, 4)", room.status(2, 4), 0);
        CHECK.due("flying()", room.flying(), 3);
        CHECK.due("want 4", room.message(1), 4 + 512 + 2048);
        CHECK.due("want 5", room.message(2), 5 + 512 + 2048);
        CHECK.due("want 5 at server 0", room.deliver(2), 2);
        CHECK.due("event 5 to server 2", room.deliver(2), 1);
        CHECK.due("status(2, 5)", room.status(2, 5), 2);
        CHECK.due("status(2, 6) still", room.status(2, 6), 1);
        CHECK.due("ends(2): what waits follows nothing", room.ends(2), 1);
        CHECK.due("current(2, 3)", room.current(2, 3), 2);
        CHECK.due("offer again", room.offer(0, 2), 1);
        CHECK.due("event 6 again", room.deliver(2), 1);
        CHECK.due("asks for 4 alone", room.flying(), 3);
        CHECK.due("want 4 again", room.message(2), 4 + 512 + 2048);
        Rooms.deliverAll(room);
        CHECK.due("status(2, 6) at last", room.status(2, 6), 2);
    }

    // Terms: "for each prev that is neither held nor refused there (lacking or pending)"
    private static void deliverAsksForWhatIsPending() {
        MeshRoom room = Rooms.withTexts(5);
        CHECK.due("event 4 to server 1", room.deliver(2), 1);
        CHECK.due("status(1, 4)", room.status(1, 4), 1);
        CHECK.due("want 3, which lacks", room.message(5), 3 + 256 + 2048);
        CHECK.due("event 5 to server 1", room.deliver(3), 1);
        CHECK.due("status(1, 5)", room.status(1, 5), 1);
        CHECK.due("want 4, which is pending", room.message(5), 4 + 256 + 2048);
        CHECK.due("flying()", room.flying(), 6);
        CHECK.due("want 4 is answered", room.deliver(5), 2);
        CHECK.due("event 4 to server 1 again", room.deliver(5), 1);
        CHECK.due("status(1, 4) still", room.status(1, 4), 1);
        CHECK.due("want 3 again", room.message(5), 3 + 256 + 2048);
        CHECK.due("event 3 to server 1", room.deliver(0), 1);
        for (int e = 3; e <= 5; e++) {
            CHECK.due("status(1, " + e + ") at last", room.status(1, e), 2);
        }
    }

    private static void deliverFreesItsPlace() {
        MeshRoom room = new MeshRoom();
        for (int e = 3; e <= 15; e++) {
            room.act(0, Rooms.TEXT, 0, e);
        }
        CHECK.due("flying()", room.flying(), 24);
        CHECK.due("the last that flies", room.message(23), 14 + 128 + 1024);
        CHECK.due("event 14 to server 1", room.deliver(22), 1);
        CHECK.due("its want flies", room.flying(), 24);
        CHECK.due("want 13", room.message(23), 13 + 256 + 2048);
        CHECK.due("a text", room.act(0, Rooms.TEXT, 0, 0), 16);
        CHECK.due("is lost", room.message(23), 13 + 256 + 2048);
    }

    private static void deliverSettlesAtMostOnce() {
        MeshRoom room = new MeshRoom();
        room.branch(3, Rooms.TEXT, 0, 0, 2);
        room.act(0, Rooms.TEXT, 0, 0);
        CHECK.due("the bad event", room.deliver(0), 1);
        CHECK.due("status(1, 3)", room.status(1, 3), 3);
        CHECK.due("flying()", room.flying(), 3);
        CHECK.due("an offer", room.offer(0, 1), 1);
        CHECK.due("of the text that flies already", room.deliver(1), 1);
        CHECK.due("status(1, 4)", room.status(1, 4), 2);
        CHECK.due("it comes again", room.deliver(2), 1);
        CHECK.due("status(1, 4)", room.status(1, 4), 2);
        CHECK.due("flying()", room.flying(), 2);
    }

    private static void lose() {
        MeshRoom room = new MeshRoom();
        CHECK.due("lose(0) of none", room.lose(0), NONE);
        room.act(0, Rooms.TEXT, 0, 0);
        room.act(0, Rooms.TEXT, 0, 0);
        CHECK.due("lose(-1)", room.lose(-1), NONE);
        CHECK.due("lose(4)", room.lose(4), NONE);
        CHECK.due("lose(MAX)", room.lose(Integer.MAX_VALUE), NONE);
        CHECK.due("lose(1)", room.lose(1), 1);
        CHECK.due("flying()", room.flying(), 3);
        CHECK.due("message(0)", room.message(0), 3 + 64 + 1024);
        CHECK.due("message(1)", room.message(1), 4 + 64 + 1024);
        CHECK.due("event 4 to server 1", room.deliver(1), 1);
        CHECK.due("lose the want", room.lose(2), 2);
        CHECK.due("flying()", room.flying(), 2);
        CHECK.due("lose(0)", room.lose(0), 1);
        CHECK.due("status(1, 3)", room.status(1, 3), 0);
        CHECK.due("status(2, 3)", room.status(2, 3), 0);
    }

    private static void spoil() {
        MeshRoom room = new MeshRoom();
        CHECK.due("spoil(0) of none", room.spoil(0), false);
        room.act(0, Rooms.TEXT, 0, 0);
        room.act(0, Rooms.TEXT, 0, 0);
        CHECK.due("spoil(-1)", room.spoil(-1), false);
        CHECK.due("spoil(4)", room.spoil(4), false);
        CHECK.due("spoil(MIN)", room.spoil(Integer.MIN_VALUE), false);
        CHECK.due("spoil(0)", room.spoil(0), true);
        CHECK.due("spoil(0) again", room.spoil(0), false);
        CHECK.due("message(0)", room.message(0), 3 + 64 + 1024 + 4096);
        CHECK.due("message(1)", room.message(1), 3 + 128 + 1024);
        CHECK.due("event 4 to server 1", room.deliver(2), 1);
        CHECK.due("spoil a want", room.spoil(3), false);
        CHECK.due("message(3)", room.message(3), 3 + 256 + 2048);
        CHECK.due("the spoiled one", room.deliver(0), 1);
        CHECK.due("flying()", room.flying(), 3);
        CHECK.due("status(1, 3)", room.status(1, 3), 0);
        CHECK.due("status(1, 4)", room.status(1, 4), 1);
        CHECK.due("spoil(1)", room.spoil(1), true);
        CHECK.due("spoiled, with a prev that lacks", room.deliver(1), 1);
        CHECK.due("status(2, 4)", room.status(2, 4), 0);
        CHECK.due("flying()", room.flying(), 2);
        CHECK.due("spoil(0)", room.spoil(0), true);
        CHECK.due("lose a spoiled one", room.lose(0), 1);
    }

    private static void flyingAndMessage() {
        MeshRoom room = new MeshRoom();
        for (int e = 3; e <= 14; e++) {
            CHECK.due("flying()", room.flying(), 2 * (e - 3));
            room.act(0, Rooms.TEXT, 0, 0);
        }
        CHECK.due("flying()", room.flying(), 24);
        room.act(0, Rooms.TEXT, 0, 0);
        CHECK.due("flying() at most 24", room.flying(), 24);
        for (int k = 0; k < 24; k++) {
            int want = 3 + k / 2 + 64 * (1 + k % 2) + 1024;
            CHECK.due("message(" + k + ")", room.message(k), want);
        }
        CHECK.due("message(-1)", room.message(-1), NONE);
        CHECK.due("message(24)", room.message(24), NONE);
        CHECK.due("message(MAX)", room.message(Integer.MAX_VALUE), NONE);
        CHECK.due("message(MIN)", room.message(Integer.MIN_VALUE), NONE);
        room.lose(23);
        CHECK.due("message(23) of 23", room.message(23), NONE);
        CHECK.due("flying()", room.flying(), 23);
    }

    private static void status() {
        MeshRoom room = new MeshRoom();
        room.act(0, Rooms.TEXT, 0, 0);
        room.act(0, Rooms.TEXT, 0, 0);
        room.branch(0, Rooms.TEXT, 0, 0, 1);
        room.deliver(2);
        room.deliver(3);
        CHECK.due("lacking", room.status(1, 3), 0);
        CHECK.due("pending", room.status(1, 4), 1);
        CHECK.due("held", room.status(0, 4), 2);
        CHECK.due("refused", room.status(1, 5), 3);
        CHECK.due("status(-1, 1)", room.status(-1, 1), NONE);
        CHECK.due("status(3, 1)", room.status(3, 1), NONE);
        CHECK.due("status(0, 0)", room.status(0, 0), NONE);
        CHECK.due("status(0, 6)", room.status(0, 6), NONE);
        CHECK.due("status(0, -1)", room.status(0, -1), NONE);
        CHECK.due("status(0, 65)", room.status(0, 65), NONE);
        CHECK.due("status(0, MAX)", room.status(0, Integer.MAX_VALUE), NONE);
    }

    private static void ends() {
        MeshRoom room = new MeshRoom();
        CHECK.due("ends(-1)", room.ends(-1), NONE);
        CHECK.due("ends(3)", room.ends(3), NONE);
        CHECK.due("ends(MAX)", room.ends(Integer.MAX_VALUE), NONE);
        room.branch(0, Rooms.TEXT, 0, 0, 2);
        CHECK.due("one", room.ends(0), 1);
        room.branch(0, Rooms.TEXT, 0, 0, 2);
        CHECK.due("two", room.ends(0), 2);
        room.branch(0, Rooms.JOIN, 0, 0, 1);
        CHECK.due("three", room.ends(0), 3);
        room.branch(3, Rooms.TEXT, 0, 0, 3);
        CHECK.due("a refused event ends nothing", room.ends(0), 3);
        room.branch(0, Rooms.TEXT, 0, 0, 3);
        CHECK.due("one follows one", room.ends(0), 3);
        CHECK.due("server 1 knows nothing of it", room.ends(1), 1);
        room.act(0, Rooms.TEXT, 0, 0);
        CHECK.due("one follows all", room.ends(0), 1);
    }

    private static void current() {
        MeshRoom room = Rooms.withMembers(2);
        Rooms.told(room, 0, Rooms.LEVELS, 2, 1);
        CHECK.due("a ban that server 0 alone knows", room.act(0, Rooms.BAN, 4, 0), 7);
        Rooms.loseAll(room);
        int[] state = {1, 6, 3, 2, 4, 5, 0, 7, 0};
        for (int key = 0; key < 9; key++) {
            CHECK.due("current(0, " + key + ")", room.current(0, key), state[key]);
            CHECK.due("current(1, " + key + ")", room.current(1, key), key == 7 ? 0 : state[key]);
        }
        CHECK.due("current(-1, 0)", room.current(-1, 0), NONE);
        CHECK.due("current(3, 0)", room.current(3, 0), NONE);
        CHECK.due("current(0, -1)", room.current(0, -1), NONE);
        CHECK.due("current(0, 9)", room.current(0, 9), NONE);
        CHECK.due("current(0, MAX)", room.current(0, Integer.MAX_VALUE), NONE);
    }

    private static void member() {
        MeshRoom room = Rooms.withMembers(3);
        Rooms.told(room, 0, Rooms.LEVELS, 1, 2);
        Rooms.told(room, 0, Rooms.LEVELS, 5, 1);
        Rooms.told(room, 0, Rooms.INVITE, 5, 0);
        Rooms.told(room, 2, Rooms.LEAVE, 2, 0);
        Rooms.told(room, 0, Rooms.BAN, 3, 0);
        int[] members = {1 + 24, 1 + 16, 3, 4, 0, 2 + 8};
        for (int p = 0; p < 3; p++) {
            for (int u = 0; u < 6; u++) {
                CHECK.due("member(" + p + ", " + u + ")", room.member(p, u), members[u]);
            }
        }
        CHECK.due("member(-1, 0)", room.member(-1, 0), NONE);
        CHECK.due("member(3, 0)", room.member(3, 0), NONE);
        CHECK.due("member(0, -1)", room.member(0, -1), NONE);
        CHECK.due("member(0, 6)", room.member(0, 6), NONE);
        CHECK.due("member(0, MAX)", room.member(0, Integer.MAX_VALUE), NONE);
    }

    private static void after() {
        MeshRoom room = Rooms.withMembers(1);
        Rooms.told(room, 0, Rooms.LEVELS, 1, 2);
        room.act(1, Rooms.TEXT, 0, 0);
        room.branch(1, Rooms.BAN, 0, 0, 5);
        room.act(1, Rooms.BAN, 5, 0);
        int[][] states = {
            {1, 0, 0, 0, 0, 0, 0, 0, 0}, {1, 0, 0, 2, 0, 0, 0, 0, 0}, {1, 0, 3, 2, 0, 0, 0, 0, 0},
            {1, 0, 3, 2, 4, 0, 0, 0, 0}, {1, 5, 3, 2, 4, 0, 0, 0, 0}, {1, 5, 3, 2, 4, 0, 0, 0, 0},
            {1, 5, 3, 2, 4, 0, 0, 0, 0}, {1, 5, 3, 2, 4, 0, 0, 0, 8},
        };
        for (int e = 1; e <= 8; e++) {
            for (int key = 0; key < 9; key++) {
                CHECK.due("after(" + e + ", " + key + ")", room.after(e, key), states[e - 1][key]);
            }
        }
        CHECK.due("after(0, 0)", room.after(0, 0), NONE);
        CHECK.due("after(9, 0)", room.after(9, 0), NONE);
        CHECK.due("after(-1, 0)", room.after(-1, 0), NONE);
        CHECK.due("after(1, -1)", room.after(1, -1), NONE);
        CHECK.due("after(1, 9)", room.after(1, 9), NONE);
        CHECK.due("after(MAX, 0)", room.after(Integer.MAX_VALUE, 0), NONE);
        CHECK.due("after(1, MIN)", room.after(1, Integer.MIN_VALUE), NONE);
    }

    private static void event() {
        MeshRoom room = Rooms.withMembers(1);
        room.tick(12);
        room.offset(1, 3);
        Rooms.told(room, 0, Rooms.LEVELS, 1, 2);
        Rooms.told(room, 1, Rooms.INVITE, 5, 9);
        Rooms.told(room, 5, Rooms.JOIN, 5, 0);
        Rooms.told(room, 1, Rooms.LEAVE, 5, 0);
        room.branch(4, Rooms.RULE, 2, 1, 8);
        int[][] rows = {
            {6, 0, 0, 1, 0, 1, 2, 2, 1}, {1, 1, 1, 0, 0, 1, 2, 3, 1}, {5, 0, 1, 11, 12, 1, 2, 2, 1},
            {2, 1, 5, 0, 15, 1, 4, 5, 1}, {1, 5, 5, 0, 12, 1, 4, 6, 1}, {3, 1, 5, 0, 15, 1, 4, 7, 1},
            {6, 4, 2, 1, 15, 1, 2, 3, 0},
        };
        for (int e = 3; e <= 9; e++) {
            for (int what = 0; what < 9; what++) {
                CHECK.due("event(" + e + ", " + what + ")", room.event(e, what), rows[e - 3][what]);
            }
        }
        CHECK.due("event(0, 0)", room.event(0, 0), NONE);
        CHECK.due("event(10, 0)", room.event(10, 0), NONE);
        CHECK.due("event(-1, 0)", room.event(-1, 0), NONE);
        CHECK.due("event(1, -1)", room.event(1, -1), NONE);
        CHECK.due("event(1, 9)", room.event(1, 9), NONE);
        CHECK.due("event(MAX, 0)", room.event(Integer.MAX_VALUE, 0), NONE);
    }

    private static void linked() {
        MeshRoom room = Rooms.withMembers(1);
        Rooms.told(room, 0, Rooms.LEVELS, 1, 2);
        Rooms.told(room, 1, Rooms.INVITE, 5, 9);
        room.act(0, Rooms.TEXT, 0, 0);
        int[][] rows = {
            {0, 0, 0, 0, 0, 0, 0}, {7, 0, 0, 0, 0, 0, 0}, {6, 7, 0, 0, 0, 0, 0}, {6, 4, 7, 0, 0, 0, 0},
            {6, 6, 0, 1, 0, 0, 0}, {6, 4, 6, 6, 7, 0, 0}, {6, 6, 0, 0, 6, 1, 0},
        };
        for (int e = 1; e <= 7; e++) {
            for (int f = 1; f <= 7; f++) {
                CHECK.due("linked(" + e + ", " + f + ")", room.linked(e, f), rows[e - 1][f - 1]);
            }
        }
        CHECK.due("linked(0, 1)", room.linked(0, 1), 0);
        CHECK.due("linked(2, 0)", room.linked(2, 0), 0);
        CHECK.due("linked(8, 1)", room.linked(8, 1), 0);
        CHECK.due("linked(2, 8)", room.linked(2, 8), 0);
        CHECK.due("linked(2, 65)", room.linked(2, 65), 0);
        CHECK.due("linked(2, -63)", room.linked(2, -63), 0);
        CHECK.due("linked(MAX, 1)", room.linked(Integer.MAX_VALUE, 1), 0);
        CHECK.due("linked(MIN, MIN)", room.linked(Integer.MIN_VALUE, Integer.MIN_VALUE), 0);
    }

    private static void authsOfEachKind() {
        MeshRoom room = Rooms.withMembers(2);
        CHECK.due("levels", Rooms.told(room, 0, Rooms.LEVELS, 1, 2), 6);
        // By kind, the events 1 .. 6 that user 1 needs for what is about user 2.
        int[][] auths = {
            {1, 0, 1, 1, 1, 1}, {1, 0, 1, 1, 1, 1}, {1, 0, 0, 1, 1, 1}, {1, 0, 0, 1, 1, 1},
            {1, 0, 0, 1, 0, 1}, {1, 0, 0, 1, 0, 1}, {1, 0, 0, 1, 0, 1},
        };
        int[] good = {0, 0, 1, 1, 1, 1, 1};
        for (int kind = Rooms.JOIN; kind <= Rooms.TEXT; kind++) {
            int made = room.branch(1, kind, 2, 0, 6);
            CHECK.due("branch of kind " + kind, made, 6 + kind);
            for (int e = 1; e <= 6; e++) {
                CHECK.due("linked(" + made + ", " + e + ") as an auth",
                        room.linked(made, e) >> 1 & 1, auths[kind - 1][e - 1]);
            }
            CHECK.due("event(" + made + ", 8)", room.event(made, 8), good[kind - 1]);
        }
    }
}
