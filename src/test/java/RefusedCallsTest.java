import java.util.ArrayList;
import java.util.List;
import java.util.function.Consumer;
import java.util.function.ToIntFunction;

/**
 * "A call that is refused changes nothing": a room with the refused call in its story answers all
 * later calls like its twin, whose story is the same without that call.
 */
public final class RefusedCallsTest {
    private static final Check CHECK = new Check("RefusedCallsTest");
    private static final int NONE = MeshRoom.NONE;
    private static final int MIN = Integer.MIN_VALUE;
    private static final int MAX = Integer.MAX_VALUE;
    // An object is good for 512 calls, so each room is asked for one part of all that it can show.
    private static final int PARTS = 10;

    /** A call that is due to be refused, with the answer that says so. */
    private record Refused(String told, int answer, ToIntFunction<MeshRoom> call) {
    }

    private final String title;
    private final Consumer<MeshRoom> story;
    private final List<List<String>> shown = new ArrayList<>();

    private RefusedCallsTest(String title, Consumer<MeshRoom> story) {
        this.title = title;
        this.story = story;
        for (int part = 0; part < PARTS; part++) {
            shown.add(look(tell(), part));
        }
    }

    public static void main(String[] args) {
        RefusedCallsTest fresh = new RefusedCallsTest("new room", room -> { });
        fresh.changesNothing(wrongInputs(3, 0));
        fresh.changesNothing(notAllowedInANewRoom());

        RefusedCallsTest busy = new RefusedCallsTest("busy room", RefusedCallsTest::busy);
        busy.changesNothing(wrongInputs(15, 8));
        busy.changesNothing(notAllowedInTheBusyRoom());
        busy.changesNothing(prevsNotHeldInTheBusyRoom());
        busy.changesNothing(notToBeSpoiledInTheBusyRoom());

        RefusedCallsTest crowded = new RefusedCallsTest("24 fly", RefusedCallsTest::crowded);
        crowded.changesNothing(wrongInputs(15, 24));
        crowded.changesNothing(notAllowedInANewRoom());

        RefusedCallsTest full = new RefusedCallsTest("40 events", RefusedCallsTest::full);
        full.changesNothing(wrongInputs(41, 22));
        full.changesNothing(anyEventIsTooMuch());

        RefusedCallsTest last = new RefusedCallsTest("39 events", RefusedCallsTest::lastButOne);
        last.changesNothing(wrongInputs(40, 1));
        CHECK.end();
    }

    /**
     * Clocks that differ, a fork at server 0, an event that server 1 awaits, refused events, WANTs and
     * a spoiled message that fly; user 3 is banned, 4 invited, 5 has left. Events 1 .. 14, 8 messages.
     */
    private static void busy(MeshRoom room) {
        room.tick(100);
        room.offset(0, 5);
        room.offset(1, -7);
        room.offset(2, 11);
        Rooms.told(room, 0, Rooms.RULE, 0, 1);
        Rooms.told(room, 1, Rooms.JOIN, 1, 0);
        Rooms.told(room, 2, Rooms.JOIN, 2, 0);
        Rooms.told(room, 5, Rooms.JOIN, 5, 0);
        Rooms.told(room, 5, Rooms.LEAVE, 5, 0);
        Rooms.told(room, 0, Rooms.BAN, 3, 0);
        Rooms.told(room, 0, Rooms.LEVELS, 1, 2);
        Rooms.told(room, 0, Rooms.INVITE, 4, 0);
        room.act(0, Rooms.TEXT, 0, 11);
        room.act(0, Rooms.TEXT, 0, 12);
        room.branch(0, Rooms.TEXT, 0, 13, 10);
        room.branch(3, Rooms.TEXT, 0, 14, 10);
        // The messages are 11 to 1, 11 to 2, 12 to 1, 12 to 2, 13 to 1, and so on.
        room.deliver(2);
        room.deliver(6);
        room.spoil(1);
        CHECK.due("busy: status(1, 12)", room.status(1, 12), 1);
        CHECK.due("busy: status(1, 13)", room.status(1, 13), 0);
        CHECK.due("busy: status(0, 14)", room.status(0, 14), 3);
        CHECK.due("busy: the spoiled one", room.message(1), 11 + 128 + 1024 + 4096);
        CHECK.due("busy: status(2, 14)", room.status(2, 14), 3);
        CHECK.due("busy: the want", room.message(6), 11 + 256 + 2048);
        room.offer(2, 1);
        CHECK.due("busy: flying()", room.flying(), 8);
        CHECK.due("busy: ends(0)", room.ends(0), 2);
    }

    private static void crowded(MeshRoom room) {
        for (int turn = 0; turn < 12; turn++) {
            room.branch(0, Rooms.TEXT, 0, turn, 2);
        }
        CHECK.due("crowded: flying()", room.flying(), 24);
    }

    private static void full(MeshRoom room) {
        for (int e = 3; e <= 40; e++) {
            room.act(0, Rooms.TEXT, 0, e);
        }
        room.deliver(0);
        room.lose(3);
        room.lose(8);
        CHECK.due("full: flying()", room.flying(), 21);
        CHECK.due("full: status(1, 3)", room.status(1, 3), 2);
        room.offer(0, 1);
        CHECK.due("full: flying() with an offer", room.flying(), 22);
    }

    private static void lastButOne(MeshRoom room) {
        for (int e = 3; e <= 39; e++) {
            room.branch(0, Rooms.TEXT, 0, e, 2);
        }
        Rooms.loseAll(room);
        room.offer(1, 2);
        CHECK.due("last but one: flying()", room.flying(), 1);
        CHECK.due("last but one: status(0, 39)", room.status(0, 39), 2);
    }

    private MeshRoom tell() {
        MeshRoom room = new MeshRoom();
        story.accept(room);
        return room;
    }

    private void changesNothing(List<Refused> calls) {
        for (Refused refused : calls) {
            for (int part = 0; part < PARTS; part++) {
                MeshRoom room = tell();
                String when = title + ", " + refused.told();
                CHECK.due(when, refused.call().applyAsInt(room), refused.answer());
                compare(when, look(room, part), shown.get(part));
            }
        }
    }

    private static void compare(String when, List<String> got, List<String> want) {
        CHECK.due(when + ": answers afterwards", got.size(), want.size());
        for (int i = 0; i < got.size() && i < want.size(); i++) {
            boolean same = got.get(i).equals(want.get(i));
            CHECK.due(same ? when : when + ": then " + got.get(i) + ", due is " + want.get(i), same, true);
        }
    }

    private static List<String> look(MeshRoom room, int part) {
        List<String> seen = new ArrayList<>();
        if (part == 0) {
            lookAtServers(room, seen);
        } else if (part == 1) {
            for (int e = 0; e <= 41; e++) {
                for (int key = 0; key < 9; key++) {
                    seen.add("after(" + e + ", " + key + ") " + room.after(e, key));
                }
            }
        } else if (part == 2) {
            for (int e = 0; e <= 41; e++) {
                for (int what = 0; what < 9; what++) {
                    seen.add("event(" + e + ", " + what + ") " + room.event(e, what));
                }
            }
        } else if (part < 8) {
            for (int e = 8 * (part - 3) + 1; e <= 8 * (part - 2); e++) {
                for (int f = 1; f <= 41; f++) {
                    seen.add("linked(" + e + ", " + f + ") " + room.linked(e, f));
                }
            }
        } else if (part == 8) {
            makeMore(room, seen);
        } else {
            deliverOn(room, seen);
        }
        return seen;
    }

    private static void lookAtServers(MeshRoom room, List<String> seen) {
        seen.add("flying() " + room.flying());
        for (int k = 0; k <= 24; k++) {
            seen.add("message(" + k + ") " + room.message(k));
        }
        for (int p = 0; p < 3; p++) {
            seen.add("ends(" + p + ") " + room.ends(p));
            for (int key = 0; key < 9; key++) {
                seen.add("current(" + p + ", " + key + ") " + room.current(p, key));
            }
            for (int u = 0; u < 6; u++) {
                seen.add("member(" + p + ", " + u + ") " + room.member(p, u));
            }
            for (int e = 1; e <= 41; e++) {
                seen.add("status(" + p + ", " + e + ") " + room.status(p, e));
            }
        }
    }

    /** New events show the numbers, the clocks, the ends and the free places in the air. */
    private static void makeMore(MeshRoom room, List<String> seen) {
        for (int u = 0; u < 6; u++) {
            int acted = room.act(u, Rooms.TEXT, 0, 5);
            int branched = room.branch(u, Rooms.TEXT, 0, 5, 2);
            for (int what = 0; what < 9; what++) {
                seen.add("event(act(" + u + ", ..), " + what + ") " + room.event(acted, what));
                seen.add("event(branch(" + u + ", ..), " + what + ") " + room.event(branched, what));
            }
            seen.add("act(" + u + ", ..) " + acted);
            seen.add("branch(" + u + ", ..) " + branched);
        }
        lookAtServers(room, seen);
    }

    /** Messages show whether they are spoiled, and servers what they await, when all has come. */
    private static void deliverOn(MeshRoom room, List<String> seen) {
        seen.add("tick(1) " + room.tick(1));
        seen.add("branch " + room.branch(0, Rooms.TEXT, 0, 0, 2));
        for (int turn = 0; turn < 100; turn++) {
            seen.add("deliver(0) " + room.deliver(0));
        }
        seen.add("offer(0, 1) " + room.offer(0, 1));
        seen.add("spoil(0) " + room.spoil(0));
        seen.add("spoil(1) " + room.spoil(1));
        seen.add("lose(0) " + room.lose(0));
        lookAtServers(room, seen);
    }

    private static Refused act(int u, int kind, int target, int value) {
        return new Refused("act(" + u + ", " + kind + ", " + target + ", " + value + ")", NONE,
                room -> room.act(u, kind, target, value));
    }

    private static Refused branch(int u, int kind, int target, int value, int prev) {
        return new Refused("branch(" + u + ", " + kind + ", " + target + ", " + value + ", " + prev + ")", NONE,
                room -> room.branch(u, kind, target, value, prev));
    }

    private static Refused spoil(int k) {
        return new Refused("spoil(" + k + ")", 0, room -> room.spoil(k) ? 1 : 0);
    }

    /** Calls that no room takes where there is no such event and so many messages fly. */
    private static List<Refused> wrongInputs(int noEvent, int flying) {
        List<Refused> calls = new ArrayList<>();
        for (int wrong : new int[] {-1, 6, MIN, MAX}) {
            calls.add(act(wrong, Rooms.TEXT, 0, 0));
            calls.add(act(0, Rooms.TEXT, wrong, 0));
            calls.add(branch(wrong, Rooms.TEXT, 0, 0, 2));
            calls.add(branch(0, Rooms.TEXT, wrong, 0, 2));
        }
        for (int wrong : new int[] {-1, 0, 8, MIN, MAX}) {
            calls.add(act(0, wrong, 0, 0));
            calls.add(branch(0, wrong, 0, 0, 2));
        }
        for (int wrong : new int[] {-1, 4, MIN, MAX}) {
            calls.add(act(0, Rooms.LEVELS, 0, wrong));
            calls.add(branch(0, Rooms.LEVELS, 0, wrong, 2));
        }
        for (int wrong : new int[] {-1, 2, MIN, MAX}) {
            calls.add(act(0, Rooms.RULE, 0, wrong));
            calls.add(branch(0, Rooms.RULE, 0, wrong, 2));
        }
        for (int wrong : new int[] {-1, 0, noEvent, 41, 65, 66, MIN, MAX}) {
            calls.add(branch(0, Rooms.TEXT, 0, 0, wrong));
        }
        addWrongClocks(calls);
        addWrongOffers(calls);
        for (int wrong : new int[] {-1, flying, 24, MIN, MAX}) {
            calls.add(new Refused("deliver(" + wrong + ")", NONE, room -> room.deliver(wrong)));
            calls.add(new Refused("lose(" + wrong + ")", NONE, room -> room.lose(wrong)));
            calls.add(spoil(wrong));
            calls.add(new Refused("message(" + wrong + ")", NONE, room -> room.message(wrong)));
        }
        addWrongQuestions(calls, noEvent);
        return calls;
    }

    private static void addWrongClocks(List<Refused> calls) {
        for (int wrong : new int[] {-1, 1001, MIN, MAX}) {
            calls.add(new Refused("tick(" + wrong + ")", 0, room -> room.tick(wrong) ? 1 : 0));
        }
        for (int wrong : new int[] {-1, 3, MIN, MAX}) {
            calls.add(new Refused("offset(" + wrong + ", 1)", 0, room -> room.offset(wrong, 1) ? 1 : 0));
        }
        for (int wrong : new int[] {-51, 51, MIN, MAX}) {
            for (int p = 0; p < 3; p++) {
                int server = p;
                calls.add(new Refused("offset(" + p + ", " + wrong + ")", 0,
                        room -> room.offset(server, wrong) ? 1 : 0));
            }
        }
    }

    private static void addWrongOffers(List<Refused> calls) {
        int[][] wrong = {{-1, 0}, {3, 0}, {0, -1}, {0, 3}, {0, 0}, {1, 1}, {2, 2}, {3, 3}, {-1, -1},
            {MIN, 1}, {1, MAX}};
        for (int[] w : wrong) {
            calls.add(new Refused("offer(" + w[0] + ", " + w[1] + ")", NONE, room -> room.offer(w[0], w[1])));
        }
    }

    private static void addWrongQuestions(List<Refused> calls, int noEvent) {
        for (int wrong : new int[] {-1, 3}) {
            calls.add(new Refused("status(" + wrong + ", 1)", NONE, room -> room.status(wrong, 1)));
            calls.add(new Refused("ends(" + wrong + ")", NONE, room -> room.ends(wrong)));
            calls.add(new Refused("current(" + wrong + ", 0)", NONE, room -> room.current(wrong, 0)));
            calls.add(new Refused("member(" + wrong + ", 0)", NONE, room -> room.member(wrong, 0)));
        }
        for (int wrong : new int[] {-1, 9}) {
            calls.add(new Refused("current(0, " + wrong + ")", NONE, room -> room.current(0, wrong)));
            calls.add(new Refused("member(0, " + wrong + ")", NONE, room -> room.member(0, wrong)));
            calls.add(new Refused("after(2, " + wrong + ")", NONE, room -> room.after(2, wrong)));
            calls.add(new Refused("event(2, " + wrong + ")", NONE, room -> room.event(2, wrong)));
        }
        for (int wrong : new int[] {0, noEvent}) {
            calls.add(new Refused("status(0, " + wrong + ")", NONE, room -> room.status(0, wrong)));
            calls.add(new Refused("after(" + wrong + ", 0)", NONE, room -> room.after(wrong, 0)));
            calls.add(new Refused("event(" + wrong + ", 0)", NONE, room -> room.event(wrong, 0)));
            calls.add(new Refused("linked(" + wrong + ", 1)", 0, room -> room.linked(wrong, 1)));
            calls.add(new Refused("linked(2, " + wrong + ")", 0, room -> room.linked(2, wrong)));
        }
    }

    // Promise 2: "or it would not be allowed in the current state of the server (then no event is made)"
    private static List<Refused> notAllowedInANewRoom() {
        List<Refused> calls = new ArrayList<>();
        for (int u = 1; u < 6; u++) {
            for (int kind = 1; kind <= 7; kind++) {
                calls.add(act(u, kind, u, 1));
            }
        }
        calls.add(act(0, Rooms.JOIN, 1, 0));
        calls.add(act(0, Rooms.INVITE, 0, 0));
        calls.add(act(0, Rooms.LEAVE, 1, 0));
        calls.add(act(0, Rooms.BAN, 0, 0));
        return calls;
    }

    private static List<Refused> notAllowedInTheBusyRoom() {
        int[][] wrong = {
            {3, Rooms.JOIN, 3}, {0, Rooms.JOIN, 5}, {1, Rooms.INVITE, 3}, {1, Rooms.INVITE, 2},
            {4, Rooms.INVITE, 5}, {5, Rooms.LEAVE, 5}, {3, Rooms.LEAVE, 3}, {1, Rooms.LEAVE, 0},
            {2, Rooms.LEAVE, 4}, {1, Rooms.LEAVE, 5}, {1, Rooms.BAN, 0}, {1, Rooms.BAN, 1}, {2, Rooms.BAN, 5},
            {1, Rooms.LEVELS, 0}, {2, Rooms.LEVELS, 2}, {2, Rooms.RULE, 0}, {3, Rooms.TEXT, 0},
            {4, Rooms.TEXT, 0}, {5, Rooms.TEXT, 0},
        };
        List<Refused> calls = new ArrayList<>();
        for (int[] w : wrong) {
            calls.add(act(w[0], w[1], w[2], 1));
        }
        calls.add(act(1, Rooms.LEVELS, 2, 3));
        return calls;
    }

    // Promise 3: "or prev is not held by the user's server"
    private static List<Refused> prevsNotHeldInTheBusyRoom() {
        List<Refused> calls = new ArrayList<>();
        calls.add(branch(0, Rooms.TEXT, 0, 0, 14));
        for (int prev = 11; prev <= 14; prev++) {
            calls.add(branch(1, Rooms.TEXT, 0, 0, prev));
            calls.add(branch(2, Rooms.TEXT, 0, 0, prev));
        }
        return calls;
    }

    // Promise 9: "false when there is none, it is a WANT, or it is spoiled already"
    private static List<Refused> notToBeSpoiledInTheBusyRoom() {
        return List.of(spoil(1), spoil(6), spoil(8));
    }

    private static List<Refused> anyEventIsTooMuch() {
        List<Refused> calls = new ArrayList<>();
        for (int kind = 1; kind <= 7; kind++) {
            calls.add(act(0, kind, 0, 1));
            calls.add(act(0, kind, 1, 0));
            calls.add(branch(0, kind, 0, 1, 40));
            calls.add(branch(1, kind, 1, 1, 2));
        }
        return calls;
    }
}
