/** Forks whose resolution was worked out by hand from the document. */
public final class ResolutionTest {
    private static final Check CHECK = new Check("ResolutionTest");

    public static void main(String[] args) {
        greaterLevelIsTriedFirst();
        earlierIsTriedFirst(-9, 11);
        earlierIsTriedFirst(0, 12);
        earlierIsTriedFirst(9, 12);
        olderPlaceIsTriedFirst();
        placesFarBack();
        placeOffTheMainline();
        agreedEventsStandFirst();
        agreedKeysAreRestored();
        agreedKeysAreRestoredLast();
        firstStateHasNoSay();
        whatAllHaveIsNotTried();
        authsFillEmptyKeys();
        wholesBringMissingSteps();
        heavyComesBeforeLight(Rooms.LEAVE);
        heavyComesBeforeLight(Rooms.BAN);
        ruleIsHeavy();
        ownLeaveIsNotHeavy();
        firstJoinAgain();
        chainOfHeavyIsTriedWithIt();
        CHECK.end();
    }

    private static void everywhere(String fork, MeshRoom room, int key, int want) {
        for (int p = 0; p < 3; p++) {
            CHECK.due(fork + ": current(" + p + ", " + key + ")", room.current(p, key), want);
        }
    }

    /** A level of 2 that was taken away meanwhile no longer counts, however early its event says it is. */
    private static void greaterLevelIsTriedFirst() {
        MeshRoom room = Rooms.withMembers(5);
        CHECK.due("level 2 for user 1", Rooms.told(room, 0, Rooms.LEVELS, 1, 2), 9);
        room.offset(1, -50);
        CHECK.due("level 0 for user 1", room.act(0, Rooms.LEVELS, 1, 0), 10);
        CHECK.due("user 1 closes the room", room.act(1, Rooms.RULE, 0, 0), 11);
        Rooms.deliverAll(room);
        CHECK.due("ends", room.ends(2), 2);
        everywhere("greater level", room, 1, 10);
        everywhere("greater level", room, 2, 3);
        CHECK.due("greater level: member(2, 1)", room.member(2, 1), 1);
    }

    /** Two of the same level: the one tried last stays. */
    private static void earlierIsTriedFirst(int offset, int want) {
        MeshRoom room = Rooms.withMembers(5);
        Rooms.told(room, 0, Rooms.LEVELS, 1, 3);
        // It changes no level, but puts the JOIN of user 1 into what both sides have.
        CHECK.due("unchanged levels", Rooms.told(room, 1, Rooms.LEVELS, 1, 3), 10);
        room.tick(20);
        room.offset(1, offset);
        CHECK.due("rule of user 0", room.act(0, Rooms.RULE, 0, 0), 11);
        CHECK.due("rule of user 1", room.act(1, Rooms.RULE, 0, 1), 12);
        CHECK.due("time of the rule of user 1", room.event(12, 4), 20 + offset);
        Rooms.deliverAll(room);
        everywhere("offset " + offset, room, 2, want);
    }

    private static void olderPlaceIsTriedFirst() {
        MeshRoom room = Rooms.withMembers(4);
        CHECK.due("older levels", Rooms.told(room, 0, Rooms.LEVELS, 1, 2), 8);
        CHECK.due("newer levels", room.act(0, Rooms.LEVELS, 3, 1), 9);
        CHECK.due("invite under the newer", room.act(0, Rooms.INVITE, 5, 0), 10);
        room.tick(5);
        CHECK.due("later invite under the older", room.act(1, Rooms.INVITE, 5, 0), 11);
        Rooms.deliverAll(room);
        everywhere("older place", room, 1, 9);
        everywhere("older place", room, 8, 10);
    }

    /** An invite of place 2 is tried before one of place 1, though it says that it is later. */
    private static void placesFarBack() {
        MeshRoom room = Rooms.withMembers(4);
        CHECK.due("oldest levels", Rooms.told(room, 0, Rooms.LEVELS, 1, 2), 8);
        room.offset(1, 20);
        CHECK.due("later invite under the oldest", room.act(1, Rooms.INVITE, 5, 0), 9);
        CHECK.due("older levels", room.act(0, Rooms.LEVELS, 3, 1), 10);
        CHECK.due("which server 2 hears of", room.deliver(3), 1);
        CHECK.due("invite under the older", room.act(2, Rooms.INVITE, 5, 0), 11);
        CHECK.due("newest levels", room.act(0, Rooms.LEVELS, 3, 0), 12);
        Rooms.deliverAll(room);
        CHECK.due("ends(1)", room.ends(1), 3);
        everywhere("far back", room, 1, 12);
        everywhere("far back", room, 8, 11);
    }

    private static void placeOffTheMainline() {
        MeshRoom room = Rooms.withMembers(4);
        Rooms.told(room, 0, Rooms.LEVELS, 1, 2);
        room.tick(30);
        room.offset(1, -20);
        CHECK.due("levels of user 0", room.act(0, Rooms.LEVELS, 3, 1), 9);
        CHECK.due("invite of user 0", room.act(0, Rooms.INVITE, 5, 0), 10);
        CHECK.due("levels of user 1", room.act(1, Rooms.LEVELS, 4, 1), 11);
        CHECK.due("invite of user 1", room.act(1, Rooms.INVITE, 5, 0), 12);
        Rooms.deliverAll(room);
        everywhere("off the mainline", room, 1, 11);
        everywhere("off the mainline", room, 8, 12);
        CHECK.due("off the mainline: member(0, 4)", room.member(0, 4), 9);
        CHECK.due("off the mainline: member(0, 3)", room.member(0, 3), 1);
    }

    /** User 1 lost its level by agreed LEVELS, so its RULE of before, tried last, fails by them. */
    private static void agreedEventsStandFirst() {
        MeshRoom room = Rooms.withMembers(2);
        CHECK.due("level 2 for user 1", Rooms.told(room, 0, Rooms.LEVELS, 1, 2), 6);
        CHECK.due("rule of user 1", Rooms.told(room, 1, Rooms.RULE, 0, 0), 7);
        CHECK.due("level 0 for user 1", Rooms.told(room, 0, Rooms.LEVELS, 1, 0), 8);
        // Its chain has the LEVELS on both sides, so that they are not tried again.
        CHECK.due("an invite", Rooms.told(room, 0, Rooms.INVITE, 5, 0), 9);
        CHECK.due("rule of user 0", room.act(0, Rooms.RULE, 0, 1), 10);
        CHECK.due("a text at server 2", room.act(2, Rooms.TEXT, 0, 0), 11);
        Rooms.deliverAll(room);
        CHECK.due("ends(1)", room.ends(1), 2);
        CHECK.due("a text upon both", room.act(1, Rooms.TEXT, 0, 0), 12);
        CHECK.due("agreed first: after(12, 1)", room.after(12, 1), 8);
        CHECK.due("agreed first: after(12, 2)", room.after(12, 2), 10);
    }

    /** An older JOIN comes up for trial through the chain of an INVITE, but its key is agreed. */
    private static void agreedKeysAreRestored() {
        MeshRoom room = Rooms.withMembers(0);
        CHECK.due("first join", room.act(1, Rooms.JOIN, 1, 0), 4);
        CHECK.due("invite", room.act(1, Rooms.INVITE, 5, 0), 5);
        CHECK.due("second join", room.branch(1, Rooms.JOIN, 1, 0, 3), 6);
        CHECK.due("current(1, 4) of the fork", room.current(1, 4), 6);
        CHECK.due("text that ends the fork", room.act(1, Rooms.TEXT, 0, 0), 7);
        CHECK.due("after(7, 4)", room.after(7, 4), 6);
        CHECK.due("after(7, 8)", room.after(7, 8), 5);
        CHECK.due("text after the second join", room.branch(1, Rooms.TEXT, 0, 0, 6), 8);
        CHECK.due("ends(1)", room.ends(1), 2);
        CHECK.due("agreed: current(1, 4)", room.current(1, 4), 6);
        CHECK.due("agreed: current(1, 8)", room.current(1, 8), 5);
    }

    /**
     * The RULE of user 1 comes up for trial through the chain of its INVITE. It would be tried after
     * that of user 0, were the latter tried too; but that one is agreed, and so is not even tried.
     */
    private static void agreedKeysAreRestoredLast() {
        MeshRoom room = Rooms.withMembers(1);
        CHECK.due("level 2 for user 1", Rooms.told(room, 0, Rooms.LEVELS, 1, 2), 5);
        room.offset(1, 20);
        CHECK.due("levels of user 1", room.act(1, Rooms.LEVELS, 4, 1), 6);
        CHECK.due("which server 0 hears of", room.deliver(0), 1);
        room.offset(1, 10);
        CHECK.due("rule of user 1", room.branch(1, Rooms.RULE, 0, 0, 5), 7);
        CHECK.due("invite of user 1", room.branch(1, Rooms.INVITE, 5, 0, 7), 8);
        CHECK.due("rule of user 0", room.act(0, Rooms.RULE, 0, 1), 9);
        CHECK.due("levels of user 0", room.act(0, Rooms.LEVELS, 3, 1), 10);
        Rooms.deliverAll(room);
        CHECK.due("text upon both", room.act(0, Rooms.TEXT, 0, 0), 11);
        // The rule of user 0 waits for the levels of user 1, which are later than the rule of user 1.
        CHECK.due("after(11, 1)", room.after(11, 1), 10);
        CHECK.due("after(11, 2)", room.after(11, 2), 9);
        CHECK.due("after(11, 8)", room.after(11, 8), 8);
        CHECK.due("text without the invite", room.branch(0, Rooms.TEXT, 0, 0, 10), 12);
        CHECK.due("ends(0)", room.ends(0), 2);
        CHECK.due("text upon both again", room.act(0, Rooms.TEXT, 0, 0), 13);
        CHECK.due("agreed last: after(13, 1)", room.after(13, 1), 10);
        CHECK.due("agreed last: after(13, 2)", room.after(13, 2), 9);
        CHECK.due("agreed last: after(13, 8)", room.after(13, 8), 8);
    }

    /** The INVITE is in the first of the states, but only what is agreed stands without a trial. */
    private static void firstStateHasNoSay() {
        MeshRoom room = Rooms.withMembers(4);
        CHECK.due("user 1 invites", room.act(1, Rooms.INVITE, 5, 0), 8);
        CHECK.due("user 0 bans user 1", room.act(0, Rooms.BAN, 1, 0), 9);
        Rooms.deliverAll(room);
        everywhere("first state", room, 4, 9);
        everywhere("first state", room, 8, 0);
    }

    /** A RULE that both sides had, but says that it is later than the one that followed it, stays out. */
    private static void whatAllHaveIsNotTried() {
        MeshRoom room = new MeshRoom();
        room.tick(10);
        CHECK.due("closed", Rooms.told(room, 0, Rooms.RULE, 0, 0), 3);
        CHECK.due("an invite, with it in its chain", Rooms.told(room, 0, Rooms.INVITE, 1, 0), 4);
        room.offset(0, -5);
        CHECK.due("open", Rooms.told(room, 0, Rooms.RULE, 0, 1), 5);
        CHECK.due("user 2 joins", room.act(2, Rooms.JOIN, 2, 0), 6);
        CHECK.due("a text at server 0", room.act(0, Rooms.TEXT, 0, 0), 7);
        Rooms.deliverAll(room);
        CHECK.due("ends(1)", room.ends(1), 2);
        everywhere("not tried", room, 2, 5);
        everywhere("not tried", room, 5, 6);
    }

    /** The LEVELS event that both sides build on is no longer in either state. */
    private static void authsFillEmptyKeys() {
        MeshRoom room = Rooms.withMembers(4);
        Rooms.told(room, 0, Rooms.LEVELS, 1, 2);
        CHECK.due("two leaders", Rooms.told(room, 0, Rooms.LEVELS, 2, 2), 9);
        CHECK.due("levels of user 1", room.act(1, Rooms.LEVELS, 3, 1), 10);
        CHECK.due("levels of user 2", room.act(2, Rooms.LEVELS, 4, 1), 11);
        Rooms.deliverAll(room);
        everywhere("auths fill", room, 1, 11);
        CHECK.due("auths fill: member(0, 3)", room.member(0, 3), 1);
        CHECK.due("auths fill: member(0, 4)", room.member(0, 4), 9);
    }

    /** One side is two LEVELS events ahead: the first of them is in no state, and yet is tried. */
    private static void wholesBringMissingSteps() {
        MeshRoom room = Rooms.withMembers(3);
        CHECK.due("levels that all know", Rooms.told(room, 0, Rooms.LEVELS, 2, 1), 7);
        CHECK.due("a leader", room.act(0, Rooms.LEVELS, 1, 2), 8);
        CHECK.due("as server 1 hears", room.deliver(0), 1);
        Rooms.loseAll(room);
        CHECK.due("levels of that leader", room.act(1, Rooms.LEVELS, 3, 1), 9);
        CHECK.due("a text at server 2", room.act(2, Rooms.TEXT, 0, 0), 10);
        Rooms.deliverAll(room);
        CHECK.due("ends(2)", room.ends(2), 2);
        everywhere("wholes", room, 1, 9);
    }

    /** What one does who was sent away or banned meanwhile fails, however early it says it is. */
    private static void heavyComesBeforeLight(int kind) {
        MeshRoom room = Rooms.withMembers(4);
        room.tick(30);
        room.offset(1, -20);
        CHECK.due("user 0 is rid of user 1", room.act(0, kind, 1, 0), 8);
        CHECK.due("user 1 invites", room.act(1, Rooms.INVITE, 5, 0), 9);
        Rooms.deliverAll(room);
        everywhere("kind " + kind, room, 4, 8);
        everywhere("kind " + kind, room, 8, 0);
    }

    private static void ruleIsHeavy() {
        MeshRoom room = Rooms.withMembers(4);
        room.tick(30);
        room.offset(2, -20);
        CHECK.due("user 0 closes the room", room.act(0, Rooms.RULE, 0, 0), 8);
        CHECK.due("user 5 joins, earlier", room.act(5, Rooms.JOIN, 5, 0), 9);
        Rooms.deliverAll(room);
        everywhere("closed", room, 2, 8);
        everywhere("closed", room, 8, 0);
        CHECK.due("status(0, 9)", room.status(0, 9), 2);
    }

    private static void ownLeaveIsNotHeavy() {
        MeshRoom room = Rooms.withMembers(4);
        room.tick(10);
        CHECK.due("user 1 leaves", room.act(1, Rooms.LEAVE, 1, 0), 8);
        room.offset(1, -5);
        CHECK.due("user 1 invites, earlier", room.branch(1, Rooms.INVITE, 5, 0, 7), 9);
        Rooms.deliverAll(room);
        everywhere("own leave", room, 4, 8);
        everywhere("own leave", room, 8, 9);
    }

    /** User 0 may join a second time right after the CREATE, also when tried without a membership. */
    private static void firstJoinAgain() {
        MeshRoom room = new MeshRoom();
        CHECK.due("second first join", room.branch(0, Rooms.JOIN, 0, 0, 1), 3);
        Rooms.deliverAll(room);
        CHECK.due("ends(1)", room.ends(1), 2);
        everywhere("first join", room, 3, 3);
        CHECK.due("first join: member(1, 0)", room.member(1, 0), 25);
    }

    /** The JOIN of user 1 is in the chain of its BAN, so it comes before light events that are earlier. */
    private static void chainOfHeavyIsTriedWithIt() {
        MeshRoom room = Rooms.withMembers(0);
        Rooms.told(room, 0, Rooms.LEVELS, 1, 2);
        room.tick(40);
        CHECK.due("user 1 joins", room.act(1, Rooms.JOIN, 1, 0), 5);
        CHECK.due("user 1 bans user 2", room.act(1, Rooms.BAN, 2, 0), 6);
        room.offset(2, -50);
        CHECK.due("user 2 joins", room.act(2, Rooms.JOIN, 2, 0), 7);
        Rooms.deliverAll(room);
        everywhere("chain of heavy", room, 4, 5);
        everywhere("chain of heavy", room, 5, 6);
    }
}
