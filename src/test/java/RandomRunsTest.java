import java.util.Random;

/** Long runs of mixed calls, the same on every machine, held against ReferenceRoom. */
public final class RandomRunsTest {
    private static final int RUNS = 1500;
    private static final int CALLS = 512;

    private final Check check;
    private final Random random;
    private final MeshRoom room = new MeshRoom();
    private final ReferenceRoom reference = new ReferenceRoom();
    private final int wildness;
    private final int delivering;
    private final int tail;

    private RandomRunsTest(Check check, int run) {
        this.check = check;
        this.random = new Random(run);
        this.wildness = random.nextInt(4) == 0 ? 20 : 200;
        this.delivering = 10 + random.nextInt(40);
        this.tail = random.nextBoolean() ? 1 : 24;
    }

    public static void main(String[] args) {
        Check check = new Check("RandomRunsTest");
        int forks = 0;
        int overruled = 0;
        int offMainline = 0;
        int badPrevs = 0;
        int earlyWants = 0;
        int splitVerdicts = 0;
        for (int run = 0; run < RUNS && check.wrong() < 20; run++) {
            RandomRunsTest test = new RandomRunsTest(check, run);
            test.play();
            forks += test.reference.forks;
            overruled += test.reference.overruled;
            offMainline += test.reference.offMainline;
            badPrevs += test.reference.badPrevs;
            earlyWants += test.reference.earlyWants;
            splitVerdicts += test.reference.splitVerdicts;
        }
        // Runs that meet none of the hard cases would prove little.
        check.due("forks were met", forks > 10000, true);
        check.due("agreed keys were overruled", overruled > 100, true);
        check.due("places off the mainline were met", offMainline > 100, true);
        // A prev was held where the event was made, so it is good, and good is the same for all servers.
        check.due("events with a prev that some server would refuse", badPrevs, 0);
        // A server sends only events that it has looked at, and so it has looked at their prevs too.
        check.due("WANTs for an event that their receiver has not looked at", earlyWants, 0);
        // The auths are the events of the state before under every key that the event is judged by.
        check.due("events that only one of their auths and the state before allows", splitVerdicts, 0);
        check.end();
    }

    private void play() {
        int calls = 0;
        if (random.nextInt(5) != 0) {
            calls += prepare();
        }
        for (; calls < CALLS && check.wrong() < 20; calls++) {
            int dice = random.nextInt(100);
            if (dice < 15) {
                make();
            } else if (dice < 15 + delivering) {
                move();
            } else if (dice < 15 + delivering + 6) {
                settings();
            } else {
                ask();
            }
        }
    }

    /** Opens the room and gives it some members and leaders, so that the runs go deep. */
    private int prepare() {
        act(0, 6, 0, 1);
        int calls = 1;
        while (reference.flying() > 0) {
            deliver(0);
            calls++;
        }
        for (int u = 1; u < 6; u++) {
            if (random.nextInt(3) != 0) {
                act(u, 1, u, 0);
                calls++;
            }
            while (reference.flying() > 0) {
                deliver(0);
                calls++;
            }
        }
        act(0, 5, 1 + random.nextInt(5), 2 + random.nextInt(2));
        act(0, 5, 1 + random.nextInt(5), 2 + random.nextInt(2));
        calls += 2;
        while (reference.flying() > 0) {
            deliver(0);
            calls++;
        }
        return calls;
    }

    /** A number of 0 .. n - 1, and now and then one that is none of these. */
    private int some(int n) {
        if (random.nextInt(wildness) == 0) {
            int[] odd = {-1, n, n + 1, -2, Integer.MAX_VALUE, Integer.MIN_VALUE, 64, 32};
            return odd[random.nextInt(odd.length)];
        }
        return random.nextInt(n);
    }

    private int someEvent() {
        return some(41);
    }

    private void make() {
        int u = some(6);
        int kind = random.nextInt(wildness) == 0 ? some(9) - 1 : 1 + random.nextInt(7);
        boolean ofOneself = kind == 1 && random.nextInt(8) != 0 || kind == 3 && random.nextBoolean();
        int target = ofOneself ? u : some(6);
        int value = kind == 5 ? some(4) : kind == 6 ? some(2) : random.nextInt();
        if (random.nextInt(3) != 0) {
            act(u, kind, target, value);
        } else {
            int prev = someEvent();
            check.due("branch(" + u + ", " + kind + ", " + target + ", " + value + ", " + prev + ")",
                    room.branch(u, kind, target, value, prev),
                    reference.branch(u, kind, target, value, prev));
        }
    }

    private void act(int u, int kind, int target, int value) {
        check.due("act(" + u + ", " + kind + ", " + target + ", " + value + ")",
                room.act(u, kind, target, value), reference.act(u, kind, target, value));
    }

    private void deliver(int k) {
        check.due("deliver(" + k + ")", room.deliver(k), reference.deliver(k));
    }

    private void move() {
        int dice = random.nextInt(20);
        int k = some(tail);
        if (dice == 0) {
            check.due("lose(" + k + ")", room.lose(k), reference.lose(k));
        } else if (dice == 1) {
            check.due("spoil(" + k + ")", room.spoil(k), reference.spoil(k));
        } else if (dice < 4) {
            int p = some(3);
            int q = some(3);
            check.due("offer(" + p + ", " + q + ")", room.offer(p, q), reference.offer(p, q));
        } else {
            deliver(k);
        }
    }

    private void settings() {
        if (random.nextBoolean()) {
            int n = random.nextInt(10) == 0 ? some(1001) : some(20);
            check.due("tick(" + n + ")", room.tick(n), reference.tick(n));
        } else {
            int p = some(3);
            int d = some(101) - 50;
            check.due("offset(" + p + ", " + d + ")", room.offset(p, d), reference.offset(p, d));
        }
    }

    private void ask() {
        int p = some(3);
        int e = someEvent();
        int f = someEvent();
        int key = some(9);
        int u = some(6);
        int k = some(24);
        switch (random.nextInt(9)) {
            case 0 -> check.due("flying()", room.flying(), reference.flying());
            case 1 -> check.due("message(" + k + ")", room.message(k), reference.message(k));
            case 2 -> check.due("status(" + p + ", " + e + ")", room.status(p, e), reference.status(p, e));
            case 3 -> check.due("ends(" + p + ")", room.ends(p), reference.ends(p));
            case 4 -> check.due("current(" + p + ", " + key + ")",
                    room.current(p, key), reference.current(p, key));
            case 5 -> check.due("member(" + p + ", " + u + ")", room.member(p, u), reference.member(p, u));
            case 6 -> check.due("after(" + e + ", " + key + ")", room.after(e, key), reference.after(e, key));
            case 7 -> check.due("event(" + e + ", " + key + ")", room.event(e, key), reference.event(e, key));
            default -> check.due("linked(" + e + ", " + f + ")", room.linked(e, f), reference.linked(e, f));
        }
    }
}
