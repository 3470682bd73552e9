/** What happens at the limits that the document names: 40 events, 24 messages, and nothing at all. */
public final class LimitsTest {
    private static final Check CHECK = new Check("LimitsTest");
    private static final int NONE = MeshRoom.NONE;

    public static void main(String[] args) {
        fortyByAct();
        fortyByBranch();
        fortyCountsRefusedEvents();
        fortyDoesNotCountRefusedCalls();
        fortyForEveryKindAndUser();
        fortyAreMovedAsAnyOther();
        fortyAreResolvedAsAnyOther();
        oneByActIsLostAt23();
        bothByActAreLostAt24();
        bothByBranchAreLostAt24();
        offerAtTheLimit();
        wantsAtTheLimit();
        answerAtTheLimit();
        placesAreGivenAgain();
        lostAtOnceIsLostForGood();
        nothingFlies();
        codesAtTheirGreatest();
        timesAtTheirEdges();
        levelsOfTheLastUser();
        CHECK.end();
    }

    // Terms: "EVENTS are numbered 1, 2, .. as they are made, at most 40."
    // Promise 2: "40 events were made"
    private static void fortyByAct() {
        MeshRoom room = Rooms.withTexts(38);
        CHECK.due("act makes the 39th", room.act(0, Rooms.TEXT, 0, 0), 39);
        CHECK.due("act makes the 40th", room.act(0, Rooms.TEXT, 0, 77), 40);
        CHECK.due("act makes a 41st", room.act(0, Rooms.TEXT, 0, 0), NONE);
        CHECK.due("act makes a 41st after a refusal", room.act(0, Rooms.TEXT, 0, 0), NONE);
        CHECK.due("status(0, 40)", room.status(0, 40), 2);
        CHECK.due("status(0, 41)", room.status(0, 41), NONE);
        CHECK.due("event(40, 3)", room.event(40, 3), 77);
        CHECK.due("event(41, 3)", room.event(41, 3), NONE);
        CHECK.due("after(40, 0)", room.after(40, 0), 1);
        CHECK.due("after(41, 0)", room.after(41, 0), NONE);
        CHECK.due("linked(40, 39)", room.linked(40, 39), 1);
        CHECK.due("linked(41, 40)", room.linked(41, 40), 0);
        CHECK.due("ends(0)", room.ends(0), 1);
    }

    // Promise 3: "40 events were made"
    private static void fortyByBranch() {
        MeshRoom room = Rooms.withTexts(38);
        CHECK.due("branch makes the 39th", room.branch(0, Rooms.TEXT, 0, 0, 38), 39);
        CHECK.due("branch makes the 40th", room.branch(0, Rooms.TEXT, 0, 0, 38), 40);
        CHECK.due("branch makes a 41st", room.branch(0, Rooms.TEXT, 0, 0, 38), NONE);
        CHECK.due("branch after the 40th", room.branch(0, Rooms.TEXT, 0, 0, 40), NONE);
        CHECK.due("branch after the first", room.branch(0, Rooms.JOIN, 0, 0, 1), NONE);
        CHECK.due("act makes a 41st", room.act(0, Rooms.TEXT, 0, 0), NONE);
        CHECK.due("ends(0)", room.ends(0), 2);
        CHECK.due("status(0, 40)", room.status(0, 40), 2);
        CHECK.due("status(0, 41)", room.status(0, 41), NONE);
    }

    private static void fortyCountsRefusedEvents() {
        MeshRoom room = new MeshRoom();
        for (int e = 3; e <= 40; e++) {
            CHECK.due("bad event " + e, room.branch(3, Rooms.TEXT, 0, 0, 2), e);
        }
        for (int e = 3; e <= 40; e++) {
            CHECK.due("status(0, " + e + ") of a bad event", room.status(0, e), 3);
        }
        CHECK.due("act after 38 bad events", room.act(0, Rooms.TEXT, 0, 0), NONE);
        CHECK.due("branch after 38 bad events", room.branch(0, Rooms.TEXT, 0, 0, 2), NONE);
        CHECK.due("ends(0)", room.ends(0), 1);
        CHECK.due("current(0, 3)", room.current(0, 3), 2);
    }

    private static void fortyDoesNotCountRefusedCalls() {
        MeshRoom room = new MeshRoom();
        for (int turn = 0; turn < 50; turn++) {
            CHECK.due("act that is not allowed", room.act(1, Rooms.TEXT, 0, 0), NONE);
            CHECK.due("branch after no event", room.branch(0, Rooms.TEXT, 0, 0, 3), NONE);
        }
        for (int e = 3; e <= 40; e++) {
            CHECK.due("text " + e + " after refused calls", room.act(0, Rooms.TEXT, 0, 0), e);
        }
    }

    private static void fortyForEveryKindAndUser() {
        MeshRoom room = Rooms.withMembers(5);
        for (int e = 9; e <= 40; e++) {
            Rooms.told(room, e % 6, Rooms.TEXT, 0, 0);
        }
        int[] targets = {0, 0, 1, 1, 1, 1, 0, 0};
        CHECK.due("status(2, 40)", room.status(2, 40), 2);
        for (int u = 0; u < 6; u++) {
            for (int kind = 1; kind <= 7; kind++) {
                String call = "(" + u + ", " + kind + ", " + targets[kind] + ", 1) at 40";
                CHECK.due("act" + call, room.act(u, kind, targets[kind], 1), NONE);
                CHECK.due("branch" + call, room.branch(u, kind, targets[kind], 1, 40), NONE);
            }
        }
        CHECK.due("flying()", room.flying(), 0);
    }

    /** The numbers above 32, too, are pending, asked for, held and forked like all others. */
    private static void fortyAreMovedAsAnyOther() {
        MeshRoom room = Rooms.withTexts(38);
        CHECK.due("event 39", room.branch(0, Rooms.TEXT, 0, 0, 2), 39);
        Rooms.loseAll(room);
        CHECK.due("event 40, with the prevs 38 and 39", room.act(0, Rooms.TEXT, 0, 0), 40);
        CHECK.due("event(40, 5)", room.event(40, 5), 2);
        CHECK.due("40 to server 1", room.deliver(0), 1);
        CHECK.due("status(1, 40)", room.status(1, 40), 1);
        CHECK.due("want 38", room.message(1), 38 + 256 + 2048);
        CHECK.due("want 39", room.message(2), 39 + 256 + 2048);
        CHECK.due("want 39 at server 0", room.deliver(2), 2);
        CHECK.due("39 to server 1", room.deliver(2), 1);
        CHECK.due("status(1, 39)", room.status(1, 39), 2);
        CHECK.due("status(1, 7)", room.status(1, 7), 0);
        CHECK.due("status(1, 40) still", room.status(1, 40), 1);
        Rooms.deliverAll(room);
        for (int e = 3; e <= 40; e++) {
            CHECK.due("status(1, " + e + ") at last", room.status(1, e), 2);
            CHECK.due("status(2, " + e + ") at last", room.status(2, e), 2);
        }
        CHECK.due("ends(1)", room.ends(1), 1);
        CHECK.due("ends(2)", room.ends(2), 1);
    }

    private static void fortyAreResolvedAsAnyOther() {
        MeshRoom room = Rooms.withMembers(1);
        for (int e = 5; e <= 37; e++) {
            Rooms.told(room, 0, Rooms.TEXT, 0, 0);
        }
        CHECK.due("levels that all know", Rooms.told(room, 0, Rooms.LEVELS, 1, 2), 38);
        room.offset(1, 9);
        CHECK.due("a ban", room.act(1, Rooms.BAN, 5, 0), 39);
        CHECK.due("levels", room.act(0, Rooms.LEVELS, 5, 1), 40);
        Rooms.deliverAll(room);
        for (int p = 0; p < 3; p++) {
            CHECK.due("ends(" + p + ") of a late fork", room.ends(p), 2);
            CHECK.due("current(" + p + ", 1) of a late fork", room.current(p, 1), 40);
            CHECK.due("current(" + p + ", 8) of a late fork", room.current(p, 8), 39);
            CHECK.due("member(" + p + ", 5) of a late fork", room.member(p, 5), 12);
        }
    }

    /** A room where 23 messages fly: 22 of 11 texts, and one of a twelfth. */
    private static MeshRoom with23() {
        MeshRoom room = Rooms.withFlying(23);
        CHECK.due("flying() where 23 are due", room.flying(), 23);
        return room;
    }

    private static MeshRoom with24() {
        MeshRoom room = Rooms.withFlying(24);
        CHECK.due("flying() where 24 are due", room.flying(), 24);
        return room;
    }

    private static void firstFlyAsSent(String when, MeshRoom room, int count) {
        int[] codes = Rooms.codesOfFlying(count);
        for (int k = 0; k < count; k++) {
            CHECK.due("message(" + k + ") " + when, room.message(k), codes[k]);
        }
    }

    // Terms: "when 24 fly, a further one is lost at once"
    private static void oneByActIsLostAt23() {
        MeshRoom room = with23();
        CHECK.due("act at 23", room.act(0, Rooms.TEXT, 0, 0), 15);
        CHECK.due("flying() after act at 23", room.flying(), 24);
        CHECK.due("the one to the lesser server flies", room.message(23), 15 + 64 + 1024);
        firstFlyAsSent("after act at 23", room, 23);
        MeshRoom other = with23();
        CHECK.due("branch at 23", other.branch(2, Rooms.TEXT, 0, 0, 2), 15);
        CHECK.due("the one to server 0 flies", other.message(23), 15 + 512 + 1024);
        CHECK.due("flying() after branch at 23", other.flying(), 24);
    }

    private static void bothByActAreLostAt24() {
        MeshRoom room = with24();
        CHECK.due("act at 24", room.act(0, Rooms.TEXT, 0, 0), 15);
        CHECK.due("the event stands at home", room.status(0, 15), 2);
        CHECK.due("flying() after act at 24", room.flying(), 24);
        firstFlyAsSent("after act at 24", room, 24);
        CHECK.due("message(24)", room.message(24), NONE);
        CHECK.due("lose(0)", room.lose(0), 1);
        CHECK.due("flying() after lose(0)", room.flying(), 23);
        CHECK.due("nothing moved up from behind", room.message(23), NONE);
    }

    private static void bothByBranchAreLostAt24() {
        MeshRoom room = with24();
        CHECK.due("branch at 24", room.branch(0, Rooms.TEXT, 0, 0, 2), 15);
        CHECK.due("a bad branch at 24", room.branch(1, Rooms.TEXT, 0, 0, 2), 16);
        CHECK.due("status(0, 15)", room.status(0, 15), 2);
        CHECK.due("status(1, 16)", room.status(1, 16), 3);
        CHECK.due("flying() after branch at 24", room.flying(), 24);
        firstFlyAsSent("after branch at 24", room, 24);
    }

    // Promise 6: "Answers how many (those lost at once counted)"
    private static void offerAtTheLimit() {
        MeshRoom room = Rooms.withFlying(24);
        CHECK.due("ends(0)", room.ends(0), 12);
        CHECK.due("offer(0, 1) at 24", room.offer(0, 1), 12);
        firstFlyAsSent("after an offer at 24", room, 24);
        CHECK.due("lose(23)", room.lose(23), 1);
        CHECK.due("offer(0, 1) at 23", room.offer(0, 1), 12);
        CHECK.due("the least end flies", room.message(23), 3 + 64 + 1024);
        CHECK.due("flying() after an offer at 23", room.flying(), 24);
        Rooms.loseAll(room);
        CHECK.due("offer(0, 2) at 0", room.offer(0, 2), 12);
        CHECK.due("flying() at 12", room.flying(), 12);
        CHECK.due("offer(0, 1) at 12", room.offer(0, 1), 12);
        CHECK.due("flying() with room for all", room.flying(), 24);
        CHECK.due("the greatest end flies last", room.message(23), 14 + 64 + 1024);
        CHECK.due("offer(1, 0) at 24", room.offer(1, 0), 1);
        CHECK.due("flying() at last", room.flying(), 24);
    }

    /** An event with two prevs that server 1 lacks comes to it while 24 fly: one place for two WANTs. */
    private static void wantsAtTheLimit() {
        MeshRoom room = new MeshRoom();
        room.branch(0, Rooms.TEXT, 0, 0, 2);
        room.branch(0, Rooms.TEXT, 0, 0, 2);
        Rooms.loseAll(room);
        CHECK.due("a text with two prevs", room.act(0, Rooms.TEXT, 0, 0), 5);
        for (int turn = 0; turn < 22; turn++) {
            room.offer(0, 2);
        }
        CHECK.due("flying()", room.flying(), 24);
        CHECK.due("5 to server 1", room.deliver(0), 1);
        CHECK.due("status(1, 5)", room.status(1, 5), 1);
        CHECK.due("flying() after two wants", room.flying(), 24);
        CHECK.due("the want for the lesser flies", room.message(23), 3 + 256 + 2048);
        CHECK.due("behind the last offer", room.message(22), 5 + 128 + 1024);
        CHECK.due("want 3 is answered in its own place", room.deliver(23), 2);
        CHECK.due("flying() after the answer", room.flying(), 24);
        CHECK.due("the answer", room.message(23), 3 + 64 + 1024);
        Rooms.deliverAll(room);
        CHECK.due("status(1, 3)", room.status(1, 3), 2);
        CHECK.due("status(1, 4), whose want was lost", room.status(1, 4), 0);
        CHECK.due("status(1, 5) waits", room.status(1, 5), 1);
        CHECK.due("offer again", room.offer(0, 1), 1);
        Rooms.deliverAll(room);
        CHECK.due("status(1, 5) at last", room.status(1, 5), 2);
    }

    // Promise 7: "flies no more before anything comes of it"
    private static void answerAtTheLimit() {
        MeshRoom room = new MeshRoom();
        room.act(0, Rooms.TEXT, 0, 0);
        room.act(0, Rooms.TEXT, 0, 0);
        CHECK.due("4 to server 2", room.deliver(3), 1);
        CHECK.due("want 3", room.message(3), 3 + 512 + 2048);
        for (int turn = 0; turn < 20; turn++) {
            room.offer(0, 1);
        }
        CHECK.due("flying()", room.flying(), 24);
        CHECK.due("want 3 at server 0", room.deliver(3), 2);
        CHECK.due("flying() after it", room.flying(), 24);
        CHECK.due("the answer flies last", room.message(23), 3 + 128 + 1024);
        CHECK.due("the others moved up", room.message(3), 4 + 64 + 1024);
    }

    private static void placesAreGivenAgain() {
        MeshRoom room = with24();
        CHECK.due("lose(23)", room.lose(23), 1);
        CHECK.due("lose(0)", room.lose(0), 1);
        CHECK.due("flying()", room.flying(), 22);
        CHECK.due("message(0)", room.message(0), 3 + 128 + 1024);
        CHECK.due("message(21)", room.message(21), 14 + 64 + 1024);
        CHECK.due("message(22)", room.message(22), NONE);
        CHECK.due("a text", room.act(0, Rooms.TEXT, 0, 0), 15);
        CHECK.due("message(22) again", room.message(22), 15 + 64 + 1024);
        CHECK.due("message(23) again", room.message(23), 15 + 128 + 1024);
        CHECK.due("spoil(23)", room.spoil(23), true);
        CHECK.due("lose(23) spoiled", room.lose(23), 1);
        CHECK.due("offer(1, 2)", room.offer(1, 2), 1);
        CHECK.due("the place is not spoiled", room.message(23), 2 + 128 + 256 + 1024);
        CHECK.due("deliver(23)", room.deliver(23), 1);
        CHECK.due("deliver(23) of 23", room.deliver(23), NONE);
    }

    private static void lostAtOnceIsLostForGood() {
        MeshRoom room = with24();
        CHECK.due("a text at 24", room.act(0, Rooms.TEXT, 0, 0), 15);
        Rooms.deliverAll(room);
        for (int p = 1; p < 3; p++) {
            CHECK.due("status(" + p + ", 14)", room.status(p, 14), 2);
            CHECK.due("status(" + p + ", 15)", room.status(p, 15), 0);
            CHECK.due("ends(" + p + ")", room.ends(p), 12);
        }
        CHECK.due("flying()", room.flying(), 0);
    }

    // Promise 1: "nothing flies"; promises 7 to 9 and 11: "when there is none"
    private static void nothingFlies() {
        MeshRoom room = new MeshRoom();
        for (int turn = 0; turn < 2; turn++) {
            CHECK.due("flying() of none", room.flying(), 0);
            for (int k = -1; k <= 1; k++) {
                CHECK.due("message(" + k + ") of none", room.message(k), NONE);
                CHECK.due("deliver(" + k + ") of none", room.deliver(k), NONE);
                CHECK.due("lose(" + k + ") of none", room.lose(k), NONE);
                CHECK.due("spoil(" + k + ") of none", room.spoil(k), false);
            }
            CHECK.due("flying() still", room.flying(), 0);
            // The second time nothing flies any more, after something did.
            room.act(0, Rooms.TEXT, 0, 0);
            CHECK.due("the last of two", room.lose(1), 1);
            CHECK.due("the last of one", room.deliver(0), 1);
        }
    }

    // Promise 11: each part of the number at its least and its greatest
    private static void codesAtTheirGreatest() {
        MeshRoom room = new MeshRoom();
        CHECK.due("offer(0, 1)", room.offer(0, 1), 1);
        CHECK.due("offer(2, 0)", room.offer(2, 0), 1);
        CHECK.due("offer(1, 2)", room.offer(1, 2), 1);
        CHECK.due("0 to 1", room.message(0), 2 + 64 + 1024);
        CHECK.due("2 to 0", room.message(1), 2 + 512 + 1024);
        CHECK.due("1 to 2", room.message(2), 2 + 128 + 256 + 1024);
        Rooms.loseAll(room);
        for (int e = 3; e <= 38; e++) {
            room.branch(2, Rooms.TEXT, 0, 0, 2);
        }
        Rooms.loseAll(room);
        CHECK.due("event 39", room.branch(0, Rooms.TEXT, 0, 0, 2), 39);
        CHECK.due("event 40", room.branch(0, Rooms.TEXT, 0, 0, 39), 40);
        CHECK.due("40 to server 2", room.message(3), 40 + 128 + 1024);
        CHECK.due("spoil(3)", room.spoil(3), true);
        CHECK.due("40 to server 2, spoiled", room.message(3), 40 + 128 + 1024 + 4096);
        CHECK.due("lose(3)", room.lose(3), 1);
        CHECK.due("offer(0, 2)", room.offer(0, 2), 1);
        CHECK.due("40 to server 2 again", room.deliver(3), 1);
        CHECK.due("want 39 of server 2", room.message(3), 39 + 512 + 2048);
        CHECK.due("a want is not spoiled", room.spoil(3), false);
        CHECK.due("want 39 as it was", room.message(3), 39 + 512 + 2048);
    }

    // Terms: "a TIME (now + the offset of the sender's server, when it is made)"
    private static void timesAtTheirEdges() {
        MeshRoom room = new MeshRoom();
        CHECK.due("offset(0, -50)", room.offset(0, -50), true);
        CHECK.due("event 3", room.act(0, Rooms.TEXT, 0, 0), 3);
        CHECK.due("the least time", room.event(3, 4), -50);
        CHECK.due("tick(49)", room.tick(49), true);
        CHECK.due("event 4", room.act(0, Rooms.TEXT, 0, 0), 4);
        CHECK.due("a time that looks like NONE", room.event(4, 4), -1);
        CHECK.due("offset(0, 50)", room.offset(0, 50), true);
        for (int turn = 0; turn < 450; turn++) {
            room.tick(1000);
        }
        CHECK.due("event 5", room.act(0, Rooms.TEXT, 0, -1), 5);
        CHECK.due("a great time", room.event(5, 4), 450099);
        CHECK.due("a value that looks like NONE", room.event(5, 3), -1);
        CHECK.due("the least time as before", room.event(3, 4), -50);
    }

    // Terms: "the LEVEL of u is value >> 2 * u & 3 of the LEVELS event"
    private static void levelsOfTheLastUser() {
        MeshRoom room = new MeshRoom();
        int value = 3;
        for (int u = 5; u >= 0; u--) {
            for (int level = u == 0 ? 2 : 0; level <= 3; level++) {
                value = value & ~(3 << 2 * u) | level << 2 * u;
                int made = room.act(0, Rooms.LEVELS, u, level);
                // User 0 has level 2 after its own first step down, and so can't rise again.
                boolean taken = u != 0 || level == 2;
                CHECK.due("LEVELS of user " + u + " to " + level, made != NONE, taken);
                if (taken) {
                    CHECK.due("value with level " + level + " of user " + u, room.event(made, 3), value);
                    CHECK.due("member(0, " + u + ")", room.member(0, u), 8 * level + (u == 0 ? 1 : 0));
                }
            }
        }
        CHECK.due("others keep their levels", room.member(0, 5), 24);
    }
}
