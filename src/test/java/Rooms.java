/** Rooms and steps that several tests begin with. */
final class Rooms {
    static final int JOIN = 1;
    static final int INVITE = 2;
    static final int LEAVE = 3;
    static final int BAN = 4;
    static final int LEVELS = 5;
    static final int RULE = 6;
    static final int TEXT = 7;

    private Rooms() {
    }

    static void deliverAll(MeshRoom room) {
        for (int turn = 0; turn < 500 && room.deliver(0) != MeshRoom.NONE; turn++) {
            continue;
        }
    }

    static void loseAll(MeshRoom room) {
        for (int turn = 0; turn < 500 && room.lose(0) != MeshRoom.NONE; turn++) {
            continue;
        }
    }

    /** Acts and lets every server hear of it. */
    static int told(MeshRoom room, int u, int kind, int target, int value) {
        int made = room.act(u, kind, target, value);
        deliverAll(room);
        return made;
    }

    /** An open room (event 3) that users 1 .. last have joined (events 4 ..), as all servers know. */
    static MeshRoom withMembers(int last) {
        MeshRoom room = new MeshRoom();
        told(room, 0, RULE, 0, 1);
        for (int u = 1; u <= last; u++) {
            told(room, u, JOIN, u, 0);
        }
        return room;
    }

    /** User 0 writes the events 3 .. last, with their numbers as values; as no other server knows. */
    static MeshRoom withTexts(int last) {
        MeshRoom room = new MeshRoom();
        for (int e = 3; e <= last; e++) {
            room.act(0, TEXT, 0, e);
        }
        return room;
    }

    /** So many messages fly, of texts of user 0 that all have the prev 2, so that none waits for another. */
    static MeshRoom withFlying(int count) {
        MeshRoom room = new MeshRoom();
        for (int sent = 0; sent < count; sent += 2) {
            room.branch(0, TEXT, 0, 0, 2);
        }
        if (count % 2 == 1) {
            room.lose(count);
        }
        return room;
    }

    /** What message(k) is due to answer there. */
    static int[] codesOfFlying(int count) {
        int[] codes = new int[count];
        for (int k = 0; k < count; k++) {
            codes[k] = 3 + k / 2 + 64 * (1 + k % 2) + 1024;
        }
        return codes;
    }
}
