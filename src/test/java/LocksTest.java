/** Promises 12 to 17, 33, 35: who has which LOCKS, who stops whom, which GAPS are free. */
final class LocksTest {
    private static final String FOUR = "hand a;hand b;hand c;hand d;key 10 1 100;key 20 1 200;key 30 1 300;";

    public static void main(String[] args) {
        lockAndHeld();
        handTold();
        queue();
        stops();
        ring();
        freeAndPhantoms();
        Case.finish();
    }

    private static void lockAndHeld() {
        Case c = new Case("lock", FOUR, 7);
        c.x.open(0);
        c.x.scan(0, 150001, 250001);
        c.x.grab(0, 30, 1);
        c.x.seek(0, 31, 1);
        int[] gaps = {0, 1, 1, 1};
        int[] keys = {0, 1, 2, 0};
        for (int i = 0; i < 4; i++) {
            c.due("gap " + i, c.x.lock(0, i, 0), gaps[i]);
            c.due("key " + i, c.x.lock(0, i, 1), keys[i]);
            c.due("another's", c.x.lock(1, i, 0) + c.x.lock(1, i, 1), 0);
        }
        int[] held = {10, 11, 20, 22, 30, -2, -2};
        for (int i = 0; i < held.length; i++) {
            c.due("held " + i, c.x.held(0, i), held[i]);
        }
        c.due("none held", c.x.held(1, 0), -2);
        c.due("held by no such", c.x.held(4, 0), -1);
        c.due("held by no such", c.x.held(-1, 0), -1);
        c.due("held below 0", c.x.held(0, -1), -1);
        c.due("no such hand", c.x.lock(4, 0, 0), -1);
        c.due("no such hand", c.x.lock(-1, 0, 0), -1);
        c.due("no such place", c.x.lock(0, 4, 0), -1);
        c.due("no such place", c.x.lock(0, -1, 0), -1);
        c.due("no such what", c.x.lock(0, 0, 2), -1);
        c.due("no such what", c.x.lock(0, 0, -1), -1);
        c.due("count of all", c.x.count(5), 5);
        c.x.seek(0, 30, 1);
        c.due("keeps it whole", c.x.lock(0, 2, 1), 2);
    }

    private static void handTold() {
        Case c = new Case("hand", FOUR, 7);
        c.due("shut", c.x.hand(0, 0), 0);
        c.due("changes of a shut one", c.x.hand(0, 4), 0);
        c.x.open(0);
        c.x.open(1);
        c.x.open(2);
        c.due("OPEN", c.x.hand(0, 0), 1);
        c.due("waits for none", c.x.hand(0, 1), 0);
        c.x.set(0, 10, 1, 1);
        c.x.set(0, 11, 1, 1);
        c.x.cut(0, 20, 1);
        c.x.cut(0, 20, 1);
        c.x.put(0, 20, 1, 5);
        c.x.put(0, 10, 1, 5);
        c.x.put(0, 40, 1, 5);
        c.x.grab(0, 30, 1);
        c.due("changes that were done", c.x.hand(0, 4), 4);
        c.due("locks", c.x.hand(0, 2), 5);
        c.x.seek(1, 30, 1);
        c.due("WAITS", c.x.hand(1, 0), 2);
        c.due("for a", c.x.hand(1, 1), 1);
        c.x.end(0);
        c.due("let on", c.x.hand(1, 0), 1);
        c.due("no locks", c.x.hand(0, 2), 0);
        c.due("no changes", c.x.hand(0, 4), 0);
        c.x.grab(2, 30, 1);
        c.due("for b", c.x.hand(2, 1), 2);
        c.x.open(0);
        c.x.seek(0, 30, 1);
        c.due("for whoever comes to stop it", c.x.hand(2, 1), 3);
        c.x.grab(2, 30, 1);
        c.x.open(3);
        c.due("deaths", c.x.hand(2, 3), 0);
        c.x.grab(3, 10, 1);
        c.x.grab(1, 10, 1);
        c.x.grab(3, 30, 1);
        c.due("deaths", c.x.hand(3, 3), 1);
        c.due("shut", c.x.hand(3, 0), 0);
        c.due("no such", c.x.hand(4, 0), -1);
        c.due("no such", c.x.hand(-1, 0), -1);
        c.due("no such", c.x.hand(0, 5), -1);
        c.due("no such", c.x.hand(0, -1), -1);
    }

    private static void queue() {
        Case c = new Case("queue", FOUR, 7);
        for (int i = 0; i < 4; i++) {
            c.x.open(i);
        }
        c.x.grab(0, 10, 1);
        c.x.seek(3, 10, 1);
        c.x.grab(1, 10, 1);
        c.x.seek(2, 10, 1);
        int[] line = {3, 1, 2, -2};
        for (int i = 0; i < 4; i++) {
            c.due("queue(" + i + ")", c.x.queue(i), line[i]);
        }
        c.due("below 0", c.x.queue(-1), -1);
        c.x.end(0);
        c.due("d and then c are let on", c.x.queue(0), 1);
        c.due("alone", c.x.queue(1), -2);
        c.due("for both", c.x.hand(1, 1), 12);
        c.x.quit(1);
        c.due("quit of one that WAITS", c.x.queue(0), -2);
    }

    private static void stops() {
        Case c = new Case("stops", FOUR, 7);
        c.x.open(0);
        c.x.open(1);
        c.x.open(2);
        c.x.scan(0, 100001, 200001);
        c.x.grab(1, 30, 1);
        c.x.seek(2, 20, 1);
        c.due("shared", c.x.stops(3, 20, 1, 0), 0);
        c.due("whole", c.x.stops(3, 20, 1, 1), 5);
        c.due("whole for one of them", c.x.stops(0, 20, 1, 1), 4);
        c.due("shared of a whole one", c.x.stops(3, 30, 1, 0), 2);
        c.due("its own", c.x.stops(1, 30, 1, 1), 0);
        c.due("not there", c.x.stops(3, 15, 1, 0), 0);
        c.due("not there", c.x.stops(3, 15, 1, 1), 0);
        c.due("put by gaps", c.x.stops(3, 15, 1, 2), 1);
        c.due("put by gaps at the place", c.x.stops(3, 25, 1, 2), 1);
        c.due("put at END", c.x.stops(3, 35, 1, 2), 0);
        c.due("put of one that is there", c.x.stops(3, 20, 1, 2), 0);
        c.due("put of a whole one", c.x.stops(3, 30, 1, 2), 2);
        c.x.cut(1, 30, 1);
        c.due("put of its own cut one", c.x.stops(1, 30, 1, 2), 0);
        c.due("put of another's cut one", c.x.stops(3, 30, 1, 2), 2);
        c.due("no such", c.x.stops(4, 10, 1, 0), -1);
        c.due("no such", c.x.stops(-1, 10, 1, 0), -1);
        c.due("no such", c.x.stops(0, 10, 0, 0), -1);
        c.due("no such", c.x.stops(0, 100000000, 1, 0), -1);
        c.due("no such", c.x.stops(0, 10, 1, 3), -1);
        c.due("no such", c.x.stops(0, 10, 1, -1), -1);
    }

    private static void ring() {
        Case c = new Case("ring", FOUR, 7);
        c.x.open(0);
        c.x.open(1);
        c.x.open(2);
        c.x.grab(0, 10, 1);
        c.x.grab(1, 20, 1);
        c.x.seek(2, 20, 1);
        c.x.seek(1, 10, 1);
        c.due("along two", c.x.ring(0, 2), 1);
        c.due("direct", c.x.ring(0, 1), 1);
        c.due("shut", c.x.ring(0, 3), 0);
        c.due("alike", c.x.ring(0, 0), -1);
        c.due("the first WAITS", c.x.ring(1, 0), -1);
        c.due("the first is shut", c.x.ring(3, 0), -1);
        c.due("no such", c.x.ring(4, 0), -1);
        c.due("no such", c.x.ring(0, 4), -1);
        c.due("no such", c.x.ring(-1, 0), -1);
        c.due("no such", c.x.ring(0, -1), -1);
        c.x.open(3);
        c.due("no ring", c.x.ring(3, 1), 0);
    }

    private static void freeAndPhantoms() {
        Case c = new Case("free", FOUR, 7);
        c.due("all", c.x.free(), 15);
        c.x.open(0);
        c.x.open(1);
        c.x.seek(0, 5, 1);
        c.x.seek(1, 99, 1);
        c.due("two of them", c.x.free(), 6);
        c.x.scan(0, 100001, 200001);
        c.due("one", c.x.free(), 0);
        c.due("covered for b", c.x.phantoms(0, 100001, 200001), 0);
        c.due("END is only b's", c.x.phantoms(0, 300001, 400001), 2);
        c.x.open(2);
        c.due("for c it is b's", c.x.phantoms(0, 300001, 400001), 2);
        c.due("of b's a alone has no other's", c.x.phantoms(1, 100001, 300001), 1);
        c.due("a shut HAND may ask", c.x.phantoms(3, 100001, 300001), 3);
        c.x.grab(2, 30, 1);
        c.x.seek(1, 30, 1);
        c.due("those that WAIT aren't told", c.x.phantoms(0, 300001, 400001), 0);
        c.due("no such", c.x.phantoms(4, 1, 10001), -1);
        c.due("no such", c.x.phantoms(0, 10001, 1), -1);
        c.due("no such", c.x.phantoms(0, 0, 1), -1);
        c.due("no such", c.x.phantoms(0, 1, -1), -1);
    }
}
