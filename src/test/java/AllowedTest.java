/** What is ALLOWED, at every membership and level: a table for each sentence of the document. */
public final class AllowedTest {
    private static final Check CHECK = new Check("AllowedTest");
    private static final int NONE = MeshRoom.NONE;
    private static final int BAN = Rooms.BAN;

    public static void main(String[] args) {
        joinOfOneself();
        joinOfAnother();
        joinAfterTheCreate();
        inviteBySender();
        inviteByTarget();
        inviteOfOneself();
        leaveOfOneself();
        leaveBySender();
        leaveByTarget();
        leaveByLevels();
        banBySender();
        banByTarget();
        banByLevels();
        banOfOneself();
        levelsBySender();
        levelsOfAnother();
        levelsOfOneself();
        levelsThatStay();
        ruleBySender();
        ruleByLevel();
        textBySender();
        textByLevel();
        levelsWithoutALevelsEvent();
        openByRule();
        badEventsChangeNoState();
        CHECK.end();
    }

    /** Brings a user, who must not have been there, to a membership that all servers know. */
    private static void become(MeshRoom room, int u, int membership) {
        if (membership == BAN) {
            Rooms.told(room, 0, BAN, u, 0);
        } else if (membership != 0) {
            Rooms.told(room, 0, Rooms.INVITE, u, 0);
            if (membership != Rooms.INVITE) {
                Rooms.told(room, u, Rooms.JOIN, u, 0);
            }
            if (membership == Rooms.LEAVE) {
                Rooms.told(room, u, Rooms.LEAVE, u, 0);
            }
        }
        CHECK.due("membership of user " + u, room.member(0, u) & 7, membership);
    }

    private static void setLevel(MeshRoom room, int u, int level) {
        Rooms.told(room, 0, Rooms.LEVELS, u, level);
        CHECK.due("level of user " + u, room.member(0, u) >> 3, level);
    }

    /** Branch makes a good event or a bad one; beside a bad one act stands upon the same state. */
    private static void allowed(String when, MeshRoom room, int[] call, boolean want) {
        int home = call[0] % 3;
        int last = last(room);
        int tried = room.branch(call[0], call[1], call[2], call[3], last);
        CHECK.due(when + ": branch", tried, last + 1);
        CHECK.due(when + ": good", room.event(tried, 8), want ? 1 : 0);
        CHECK.due(when + ": status", room.status(home, tried), want ? 2 : 3);
        if (!want) {
            CHECK.due(when + ": act", room.act(call[0], call[1], call[2], call[3]), NONE);
            CHECK.due(when + ": no event was made", room.status(home, tried + 1), NONE);
        }
    }

    private static int last(MeshRoom room) {
        int last = 2;
        while (room.status(0, last + 1) != NONE) {
            last++;
        }
        return last;
    }

    private interface Setting {
        void prepare(MeshRoom room, int column);
    }

    /**
     * Each column of the table in two new rooms, for branch and for act alone. A column is a level or
     * a membership by its kind, where 0 stands for one who was never there.
     */
    private static void table(String title, Setting setting, int[] call, String table) {
        for (int column = 0; column < table.length(); column++) {
            boolean want = table.charAt(column) == '1';
            String when = title + ", column " + column;
            MeshRoom room = new MeshRoom();
            setting.prepare(room, column);
            allowed(when, room, call, want);
            MeshRoom other = new MeshRoom();
            setting.prepare(other, column);
            int next = last(other) + 1;
            CHECK.due(when + ": act alone", other.act(call[0], call[1], call[2], call[3]), want ? next : NONE);
        }
    }

    private static int[] call(int u, int kind, int target, int value) {
        return new int[] {u, kind, target, value};
    }

    // "JOIN: s is t, whose membership is not BAN, and one of these: the room is open; the membership
    // of t is JOIN or INVITE"
    private static void joinOfOneself() {
        String[] tables = {"01100", "11110", "01100"};
        for (int r = 0; r < 3; r++) {
            // 0 and 1 are the values of a RULE, 2 is for a room without one.
            int rule = r;
            table("own JOIN, rule " + (r == 2 ? "none" : r), (room, membership) -> {
                become(room, 1, membership);
                if (rule < 2) {
                    Rooms.told(room, 0, Rooms.RULE, 0, rule);
                }
            }, call(1, Rooms.JOIN, 1, 0), tables[r]);
        }
    }

    private static void joinOfAnother() {
        table("JOIN of another", (room, membership) -> {
            become(room, 1, membership);
            Rooms.told(room, 0, Rooms.RULE, 0, 1);
        }, call(0, Rooms.JOIN, 1, 0), "00000");
    }

    // "the event has one prev, which is the CREATE, and s is the sender of the CREATE"
    private static void joinAfterTheCreate() {
        MeshRoom room = new MeshRoom();
        CHECK.due("by the maker, after the CREATE", room.event(room.branch(0, Rooms.JOIN, 0, 0, 1), 8), 1);
        for (int u = 1; u < 6; u++) {
            CHECK.due("by user " + u + ", after the CREATE", room.event(room.branch(u, Rooms.JOIN, u, 0, 1), 8), 0);
        }
        CHECK.due("of another, after the CREATE", room.event(room.branch(0, Rooms.JOIN, 3, 0, 1), 8), 0);
        MeshRoom left = new MeshRoom();
        CHECK.due("the maker leaves", left.act(0, Rooms.LEAVE, 0, 0), 3);
        CHECK.due("the maker, after its leave", left.act(0, Rooms.JOIN, 0, 0), NONE);
        CHECK.due("the maker, in a branch after its leave", left.event(left.branch(0, Rooms.JOIN, 0, 0, 3), 8), 0);
        CHECK.due("the maker, after the CREATE again", left.event(left.branch(0, Rooms.JOIN, 0, 0, 1), 8), 1);
    }

    // "INVITE: the membership of s is JOIN, that of t is neither JOIN nor BAN."
    private static void inviteBySender() {
        table("INVITE by membership of the sender", (room, membership) -> become(room, 1, membership),
                call(1, Rooms.INVITE, 2, 0), "01000");
    }

    private static void inviteByTarget() {
        table("INVITE by membership of the target", (room, membership) -> {
            become(room, 1, Rooms.JOIN);
            become(room, 2, membership);
        }, call(1, Rooms.INVITE, 2, 0), "10110");
    }

    private static void inviteOfOneself() {
        table("INVITE of oneself", (room, membership) -> become(room, 1, membership),
                call(1, Rooms.INVITE, 1, 0), "00000");
    }

    // "LEAVE: s is t, and its membership is JOIN or INVITE"
    private static void leaveOfOneself() {
        table("own LEAVE", (room, membership) -> become(room, 1, membership),
                call(1, Rooms.LEAVE, 1, 0), "01100");
    }

    // "or s is not t, s has the membership JOIN, a level of 2 or more and more than the level of t, and
    // t has the membership JOIN, INVITE or BAN."
    private static void leaveBySender() {
        table("LEAVE by membership of the sender", (room, membership) -> {
            become(room, 1, membership);
            become(room, 2, Rooms.JOIN);
            setLevel(room, 1, 2);
        }, call(1, Rooms.LEAVE, 2, 0), "01000");
    }

    private static void leaveByTarget() {
        table("LEAVE by membership of the target", (room, membership) -> {
            become(room, 1, Rooms.JOIN);
            become(room, 2, membership);
            setLevel(room, 1, 2);
        }, call(1, Rooms.LEAVE, 2, 0), "01101");
    }

    private static void leaveByLevels() {
        byLevels("LEAVE", Rooms.LEAVE);
    }

    /** The level of user 1, who acts, in rows; that of user 2, whom it is about, in columns. */
    private static void byLevels(String title, int kind) {
        String[] tables = {"0000", "0000", "1100", "1110"};
        for (int level = 0; level <= 3; level++) {
            int own = level;
            table(title + " by level " + level + " and that of the target", (room, other) -> {
                become(room, 1, Rooms.JOIN);
                become(room, 2, Rooms.JOIN);
                setLevel(room, 1, own);
                setLevel(room, 2, other);
            }, call(1, kind, 2, 0), tables[level]);
        }
    }

    // "BAN: s has the membership JOIN, a level of 2 or more and more than the level of t."
    private static void banBySender() {
        table("BAN by membership of the sender", (room, membership) -> {
            become(room, 1, membership);
            setLevel(room, 1, 2);
        }, call(1, BAN, 2, 0), "01000");
    }

    private static void banByTarget() {
        table("BAN by membership of the target", (room, membership) -> {
            become(room, 1, Rooms.JOIN);
            become(room, 2, membership);
            setLevel(room, 1, 2);
        }, call(1, BAN, 2, 0), "11111");
    }

    private static void banByLevels() {
        byLevels("BAN", BAN);
    }

    private static void banOfOneself() {
        table("BAN of oneself by level", (room, level) -> {
            become(room, 1, Rooms.JOIN);
            setLevel(room, 1, level);
        }, call(1, BAN, 1, 0), "0000");
    }

    // "LEVELS: s has the membership JOIN and a level of 2 or more"
    private static void levelsBySender() {
        table("LEVELS by membership of the sender", (room, membership) -> {
            become(room, 1, membership);
            setLevel(room, 1, 2);
        }, call(1, Rooms.LEVELS, 2, 1), "01000");
    }

    // "and for each user u whose level n by the value of the event is not its level m in the state:
    // n is at most the level of s, and m is less than the level of s or u is s."
    private static void levelsOfAnother() {
        // By the level of user 1 and n; the columns are m, the level of user 2.
        String[][] tables = {
            {"0000", "0000", "0000", "0000"}, {"0000", "0000", "0000", "0000"},
            {"1100", "1100", "1110", "0001"}, {"1110", "1110", "1110", "1111"},
        };
        for (int level = 0; level <= 3; level++) {
            int own = level;
            for (int wanted = 0; wanted <= 3; wanted++) {
                table("LEVELS by level " + level + " to " + wanted, (room, had) -> {
                    become(room, 1, Rooms.JOIN);
                    setLevel(room, 1, own);
                    setLevel(room, 2, had);
                }, call(1, Rooms.LEVELS, 2, wanted), tables[level][wanted]);
            }
        }
    }

    private static void levelsOfOneself() {
        String[] tables = {"0011", "0011", "0011", "0001"};
        for (int wanted = 0; wanted <= 3; wanted++) {
            table("LEVELS of oneself to " + wanted, (room, own) -> {
                become(room, 1, Rooms.JOIN);
                setLevel(room, 1, own);
            }, call(1, Rooms.LEVELS, 1, wanted), tables[wanted]);
        }
    }

    /** Users of a level not less than the sender's are no hindrance as long as theirs stay. */
    private static void levelsThatStay() {
        table("LEVELS beside a level", (room, level) -> {
            become(room, 1, Rooms.JOIN);
            setLevel(room, 1, 2);
            setLevel(room, 5, level);
        }, call(1, Rooms.LEVELS, 2, 2), "1111");
    }

    // "RULE: s has the membership JOIN and a level of 2 or more."
    private static void ruleBySender() {
        table("RULE by membership of the sender", (room, membership) -> {
            become(room, 1, membership);
            setLevel(room, 1, 2);
        }, call(1, Rooms.RULE, 0, 1), "01000");
    }

    private static void ruleByLevel() {
        table("RULE by level", (room, level) -> {
            become(room, 1, Rooms.JOIN);
            setLevel(room, 1, level);
        }, call(1, Rooms.RULE, 0, 0), "0011");
    }

    // "TEXT: s has the membership JOIN."
    private static void textBySender() {
        table("TEXT by membership of the sender", (room, membership) -> become(room, 1, membership),
                call(1, Rooms.TEXT, 0, 0), "01000");
    }

    private static void textByLevel() {
        table("TEXT by level", (room, level) -> {
            become(room, 1, Rooms.JOIN);
            setLevel(room, 1, level);
        }, call(1, Rooms.TEXT, 0, 0), "1111");
    }

    // "or without one 3 for the sender of the CREATE and 0 for others"
    private static void levelsWithoutALevelsEvent() {
        MeshRoom room = new MeshRoom();
        for (int u = 0; u < 6; u++) {
            CHECK.due("level of user " + u + " without LEVELS", room.member(0, u) >> 3, u == 0 ? 3 : 0);
        }
        CHECK.due("LEVELS", room.act(0, Rooms.LEVELS, 0, 0), 3);
        for (int u = 0; u < 6; u++) {
            CHECK.due("level of user " + u + " with LEVELS", room.member(0, u) >> 3, 0);
        }
    }

    // "the room is OPEN when there is a RULE event with value 1"
    private static void openByRule() {
        MeshRoom room = new MeshRoom();
        CHECK.due("no RULE", room.act(1, Rooms.JOIN, 1, 0), NONE);
        Rooms.told(room, 0, Rooms.RULE, 0, 0);
        CHECK.due("RULE 0", room.act(1, Rooms.JOIN, 1, 0), NONE);
        Rooms.told(room, 0, Rooms.RULE, 0, 1);
        CHECK.due("RULE 1", room.act(1, Rooms.JOIN, 1, 0), 5);
        Rooms.told(room, 0, Rooms.RULE, 0, 0);
        CHECK.due("RULE 0 again", room.act(2, Rooms.JOIN, 2, 0), NONE);
    }

    // "AFTER an event is the state before it, in which, if the event is good and has a key, it is the
    // event of that key."
    private static void badEventsChangeNoState() {
        int[] keys = {0, 6, 6, 6, 6, 1, 2, 0};
        for (int kind = 1; kind <= 7; kind++) {
            MeshRoom room = new MeshRoom();
            int bad = room.branch(3, kind, 3, 0, 2);
            CHECK.due("good of kind " + kind, room.event(bad, 8), 0);
            for (int key = 0; key < 9; key++) {
                CHECK.due("key " + key + " after a bad event of kind " + kind, room.after(bad, key), room.after(2, key));
                CHECK.due("key " + key + " beside a bad event of kind " + kind, room.current(0, key), room.after(2, key));
            }
        }
        MeshRoom room = Rooms.withMembers(3);
        for (int kind = 1; kind <= 7; kind++) {
            int target = kind == Rooms.JOIN ? 0 : kind == Rooms.INVITE ? 4 : 3;
            int good = room.branch(0, kind, target, 0, 6);
            int key = kind == Rooms.JOIN ? 3 : kind == Rooms.INVITE ? 7 : keys[kind];
            CHECK.due("good of kind " + kind + " of user 0", room.event(good, 8), 1);
            for (int k = 0; k < 9; k++) {
                int want = k == key && kind != Rooms.TEXT ? good : room.after(6, k);
                CHECK.due("key " + k + " after a good event of kind " + kind, room.after(good, k), want);
            }
        }
    }
}
