/** Promises 18 to 27, 37, 43, 44: what HANDS do, how they WAIT, are let on and DIE. */
final class HandsTest {
    private static final String FOUR = "hand a;hand b;hand c;hand d;key 10 1 100;key 20 1 200;key 30 1 300;";

    public static void main(String[] args) {
        openEndQuit();
        wrongCalls();
        scan();
        seekAndGrab();
        setAndCut();
        put();
        putNext();
        fullIndex();
        vanishing();
        undoing();
        lettingOn();
        otherNeeds();
        dying();
        outcome();
        wakesAndLoses();
        Case.finish();
    }

    private static Case four(String name, int opened) {
        Case c = new Case(name, FOUR, 7);
        for (int i = 0; i < opened; i++) {
            c.x.open(i);
        }
        return c;
    }

    private static void openEndQuit() {
        Case c = four("open", 0);
        c.due("open", c.x.open(0), 0);
        c.due("open again", c.x.open(0), -1);
        c.due("end", c.x.end(0), 0);
        c.due("end of a shut one", c.x.end(0), -1);
        c.due("quit of a shut one", c.x.quit(0), -1);
        c.due("open", c.x.open(0), 0);
        c.due("quit", c.x.quit(0), 0);
        c.due("shut", c.x.hand(0, 0), 0);
        c.x.open(0);
        c.x.open(1);
        c.x.grab(0, 10, 1);
        c.x.grab(1, 10, 1);
        c.due("open of one that WAITS", c.x.open(1), -1);
        c.due("end of one that WAITS", c.x.end(1), -1);
        c.due("quit of one that WAITS", c.x.quit(1), 0);
        c.due("shut", c.x.hand(1, 0), 0);
        for (int bad : new int[] {-1, 4, 5, Integer.MIN_VALUE, Integer.MAX_VALUE}) {
            c.due("no such", c.x.open(bad), -1);
            c.due("no such", c.x.end(bad), -1);
            c.due("no such", c.x.quit(bad), -1);
            c.due("no such", c.x.outcome(bad), -5);
            c.due("no such", c.x.wakes(bad), -1);
            c.due("no such", c.x.loses(bad), Integer.MIN_VALUE);
        }
    }

    private static void wrongCalls() {
        Case c = four("wrong", 1);
        c.due("scan of a shut one", c.x.scan(1, 1, 10001), -1);
        c.due("seek of a shut one", c.x.seek(1, 10, 1), -1);
        c.due("grab of a shut one", c.x.grab(1, 10, 1), -1);
        c.due("set of a shut one", c.x.set(1, 10, 1, 1), -1);
        c.due("put of a shut one", c.x.put(1, 10, 1, 1), -1);
        c.due("cut of a shut one", c.x.cut(1, 10, 1), -1);
        c.due("putNext of a shut one", c.x.putNext(1, 0, 1), -1);
        c.due("scan turned", c.x.scan(0, 200001, 100001), -1);
        c.due("scan by 0", c.x.scan(0, 100000, 200001), -1);
        c.due("scan below 0", c.x.scan(0, -1, 200001), -1);
        c.due("scan too far", c.x.scan(0, 1, 1000000001), -1);
        c.due("seek", c.x.seek(0, -1, 1), -1);
        c.due("seek", c.x.seek(0, 10, 0), -1);
        c.due("grab", c.x.grab(0, 100000000, 1), -1);
        c.due("grab", c.x.grab(0, 10, 10000), -1);
        c.due("set", c.x.set(0, 10, 0, 1), -1);
        c.due("set of no VALUE", c.x.set(0, 10, 1, -1), -1);
        c.due("set of no VALUE", c.x.set(0, 10, 1, 10000), -1);
        c.due("put of no VALUE", c.x.put(0, 11, 1, 10000), -1);
        c.due("put of no VALUE", c.x.put(0, 11, 1, -1), -1);
        c.due("put", c.x.put(0, 11, 0, 1), -1);
        c.due("cut", c.x.cut(0, 10, 0), -1);
        c.due("nothing was done", c.x.hand(0, 2) + c.x.hand(0, 4), 0);
        c.due("the outcome is that of open", c.x.outcome(0), 0);
        c.due("the INDEX stays", c.x.count(9), 600);
    }

    private static void scan() {
        Case c = four("scan", 3);
        c.due("sum", c.x.scan(0, 100001, 200001), 300);
        c.due("places", c.x.hand(0, 2), 5);
        c.due("nothing in it", c.x.scan(0, 210001, 290001), 0);
        c.due("the place behind", c.x.lock(0, 2, 0), 1);
        c.due("up to END", c.x.scan(0, 250001, 999990001), 300);
        c.due("END", c.x.lock(0, 3, 0), 1);
        c.due("shared with another", c.x.scan(1, 1, 100001), 100);
        c.x.end(0);
        c.x.end(1);
        c.x.open(0);
        c.x.cut(0, 20, 1);
        c.due("without its own cut ones", c.x.scan(0, 1, 999990001), 400);
        c.due("that are locked", c.x.lock(0, 1, 0), 1);
        c.due("stopped", c.x.scan(2, 100001, 300001), -2);
        c.due("locks by then stay", c.x.held(2, 0) * 10000 + c.x.held(2, 1) * 100 + c.x.held(2, 2), 110);
        c.due("no more", c.x.held(2, 3), -2);
        c.due("ends", c.x.end(0), 0);
        c.due("the sum when let on", c.x.outcome(2), 400);
        c.due("locks then", c.x.hand(2, 2), 5);
    }

    private static void seekAndGrab() {
        Case c = four("seek", 3);
        c.due("seek", c.x.seek(0, 20, 1), 200);
        c.due("shared", c.x.lock(0, 1, 1), 1);
        c.due("not its GAP", c.x.lock(0, 1, 0), 0);
        c.due("not there", c.x.seek(0, 25, 1), -4);
        c.due("the GAP", c.x.lock(0, 2, 0), 1);
        c.due("not the KEY", c.x.lock(0, 2, 1), 0);
        c.due("at END", c.x.seek(0, 31, 1), -4);
        c.due("END's GAP", c.x.lock(0, 3, 0), 1);
        c.due("grab", c.x.grab(1, 10, 1), 100);
        c.due("whole", c.x.lock(1, 0, 1), 2);
        c.due("grab that isn't there takes a GAP that another has", c.x.grab(1, 25, 1), -4);
        c.due("the GAP", c.x.lock(1, 2, 0), 1);
        c.due("grab of a shared one", c.x.grab(1, 20, 1), -2);
        c.due("and another may share it", c.x.seek(2, 20, 1), 200);
        c.x.end(0);
        c.due("stopped by the other one", c.x.hand(1, 1), 4);
        c.x.end(2);
        c.due("let on", c.x.outcome(1), 200);
        c.due("whole", c.x.lock(1, 1, 1), 2);
        Case d = four("up", 2);
        d.x.seek(0, 10, 1);
        d.due("shared, then whole", d.x.grab(0, 10, 1), 100);
        d.due("whole", d.x.lock(0, 0, 1), 2);
        d.due("one lock", d.x.hand(0, 2), 1);
        d.due("told otherwise", d.x.grab(0, 20, 2), 100);
    }

    private static void setAndCut() {
        Case c = four("set", 2);
        c.due("set", c.x.set(0, 10, 1, 9999), 100);
        c.due("set again", c.x.set(0, 10, 1, 0), 9999);
        c.due("value", c.key(0, 1), 0);
        c.due("not there", c.x.set(0, 15, 1, 4), -4);
        c.due("as by grab", c.x.lock(0, 1, 0), 1);
        c.due("cut", c.x.cut(0, 20, 1), 200);
        c.due("it is there yet", c.x.count(1), 3);
        c.due("cut again", c.x.cut(0, 20, 1), -4);
        c.due("set of a cut one", c.x.set(0, 20, 1, 3), -4);
        c.due("its value", c.key(1, 1), 200);
        c.due("seek of a cut one", c.x.seek(0, 20, 1), -4);
        c.due("grab of a cut one", c.x.grab(0, 20, 1), -4);
        c.due("no GAP for that", c.x.hand(0, 2), 3);
        c.due("cut that isn't there", c.x.cut(0, 35, 1), -4);
        c.due("its GAP", c.x.lock(0, 3, 0), 1);
        c.due("seek by another WAITS", c.x.seek(1, 20, 1), -2);
        c.due("changes", c.x.hand(0, 4), 3);
        c.x.end(0);
        c.due("gone", c.x.outcome(1), -4);
        c.due("and its GAP instead", c.x.lock(1, 1, 0), 1);
        c.due("KEYS", c.x.count(1), 2);
        c.due("VALUES", c.x.count(9), 300);
    }

    private static void put() {
        Case c = four("put", 3);
        c.due("put", c.x.put(0, 15, 1, 7), 4);
        c.due("whole", c.x.lock(0, 1, 1), 2);
        c.due("no GAP", c.x.lock(0, 1, 0) + c.x.lock(0, 2, 0), 0);
        c.due("double", c.x.put(0, 15, 1, 8), -4);
        c.due("its value stays", c.key(1, 1), 7);
        c.due("double", c.x.put(0, 10, 1, 8), -4);
        c.due("shared, that stays", c.x.lock(0, 0, 1), 1);
        c.due("double of one that is put: WAITS", c.x.put(1, 15, 1, 3), -2);
        c.x.quit(0);
        c.due("put when that one quit", c.x.outcome(1), 4);
        c.due("its value", c.key(1, 1), 3);
        c.due("END's GAP", c.x.seek(2, 99, 1), -4);
        c.due("put stopped by a GAP", c.x.put(1, 40, 1, 1), -2);
        c.due("for c", c.x.hand(1, 1), 4);
        c.due("put by its own GAP", c.x.put(2, 50, 1, 5), 5);
        c.due("at it, too", c.x.lock(2, 4, 0), 1);
        c.due("END's stays", c.x.lock(2, 5, 0), 1);
        c.due("one that WAITS stops others", c.x.stops(0, 45, 1, 2), 4);
        c.x.open(0);
        c.x.cut(0, 30, 1);
        c.due("put of its own cut one asks for no GAP", c.x.put(0, 30, 1, 31), 5);
        c.due("not cut", c.key(3, 2), -2);
        c.due("its value", c.key(3, 1), 31);
        c.due("two changes", c.x.hand(0, 4), 2);
        c.x.quit(0);
        c.due("as it was", c.key(3, 1), 300);
        c.due("not cut", c.key(3, 2), -2);
    }

    private static void putNext() {
        Case c = four("putNext", 2);
        c.due("no such KEY", c.x.putNext(0, 3, 1), -1);
        c.due("no such KEY", c.x.putNext(0, -1, 1), -1);
        c.due("no such HAND", c.x.putNext(4, 0, 1), -1);
        c.due("no VALUE", c.x.putNext(0, 0, 10000), -1);
        c.due("no VALUE", c.x.putNext(0, 0, -1), -1);
        c.due("put", c.x.putNext(0, 0, 5), 4);
        c.due("next above", c.key(1, 0), Case.bits(Math.nextUp(10f)));
        c.due("double", c.x.putNext(0, 0, 5), -4);
        c.due("again", c.x.putNext(0, 1, 5), 5);
        c.due("WAITS", c.x.putNext(1, 0, 5), -2);
    }

    private static void fullIndex() {
        String keys = "";
        for (int i = 1; i <= 16; i++) {
            keys += "key " + 10 * i + " 1 1;";
        }
        Case c = new Case("full", "hand a;hand b;hand c;" + keys, 19);
        c.x.open(0);
        c.x.open(1);
        c.x.open(2);
        for (int i = 0; i < 7; i++) {
            c.due("put", c.x.put(0, 11 + i, 1, 1), 17 + i);
        }
        c.x.seek(2, 999, 1);
        c.due("WAITS", c.x.put(1, 500, 1, 1), -2);
        c.due("the 24th", c.x.put(0, 18, 1, 1), 24);
        c.due("no more", c.x.put(0, 19, 1, 1), -1);
        c.due("it isn't looked at", c.x.outcome(0), 24);
        c.due("asked first", c.x.put(0, 998, 1, 1), -1);
        c.due("double", c.x.put(0, 10, 1, 1), -4);
        c.due("its own cut one", c.x.cut(0, 20, 1) * 100 + c.x.put(0, 20, 1, 2), 124);
        c.x.end(2);
        c.due("finds 24", c.x.outcome(1), -1);
        c.due("OPEN", c.x.hand(1, 0), 1);
        c.x.quit(0);
        c.due("undone", c.x.count(1), 16);
        c.due("free again", c.x.put(1, 500, 1, 1), 17);
        for (int i = 0; i < 7; i++) {
            c.due("put", c.x.put(1, 501 + i, 1, 1), 18 + i);
        }
        c.x.open(0);
        c.x.seek(0, 999, 1);
        c.due("END's GAP of 24", c.x.lock(0, 24, 0), 1);
        c.due("places", c.x.free(), (1 << 24) - 1);
        c.due("all of them", c.x.phantoms(1, 5000001, 9000001), 1);
        c.x.take();
        c.x.end(0);
        c.due("END's GAP is free", c.x.free(), (1 << 25) - 1);
        c.x.back();
        c.due("END's GAP isn't", c.x.free(), (1 << 24) - 1);
        c.due("END is a's alone", c.x.phantoms(1, 9000001, 9000001), 1);
        c.due("END is a's", c.x.phantoms(0, 9000001, 9000001), 0);
    }

    private static void vanishing() {
        Case c = four("vanish", 4);
        c.x.seek(1, 15, 1);
        c.x.cut(0, 10, 1);
        c.x.cut(0, 20, 1);
        c.x.seek(2, 5, 1);
        c.x.end(0);
        c.due("two went", c.x.count(1), 1);
        c.due("b has the GAP behind", c.x.lock(1, 0, 0), 1);
        c.due("c too", c.x.lock(2, 0, 0), 1);
        c.due("nothing else", c.x.count(5), 2);
        Case d = four("vanish at END", 3);
        d.x.put(0, 40, 1, 4);
        d.x.seek(1, 35, 1);
        d.x.quit(0);
        d.due("END's GAP", d.x.lock(1, 3, 0), 1);
        d.due("one lock", d.x.hand(1, 2), 1);
        d.x.open(0);
        d.x.cut(0, 30, 1);
        d.x.seek(0, 25, 1);
        d.x.end(0);
        d.due("not by the HAND by which it does", d.x.hand(0, 2), 0);
        d.x.quit(1);
        d.x.open(1);
        d.x.seek(1, 20, 1);
        d.due("KEYS left", d.x.count(1), 2);
        d.x.open(0);
        d.x.cut(0, 20, 1);
        d.due("cut WAITS", d.x.hand(0, 0), 2);
        d.x.end(1);
        d.due("then it is cut", d.key(1, 2), 0);
        d.x.scan(2, 1, 200001);
        d.due("GAPS, and one KEY shared", d.x.hand(2, 2), 3);
        d.x.end(0);
        d.due("scan let on", d.x.outcome(2), 100);
        d.due("END's", d.x.lock(2, 1, 0), 1);
    }

    private static void undoing() {
        Case c = four("undo", 2);
        c.x.set(0, 10, 1, 1);
        c.x.set(0, 10, 1, 2);
        c.x.cut(0, 10, 1);
        c.x.put(0, 10, 1, 3);
        c.x.put(0, 11, 1, 4);
        c.x.set(0, 11, 1, 5);
        c.x.cut(0, 11, 1);
        c.x.put(0, 11, 1, 6);
        c.x.cut(0, 20, 1);
        c.due("changes", c.x.hand(0, 4), 9);
        c.due("count", c.x.count(1), 4);
        c.due("cut ones", c.x.count(10), 1);
        c.x.set(1, 30, 1, 9);
        c.x.quit(0);
        c.due("count", c.x.count(1), 3);
        c.due("values", c.x.count(9), 309);
        c.due("cut ones", c.x.count(10), 0);
        c.due("another's changes stay", c.x.hand(1, 4), 1);
        c.x.end(1);
        c.x.open(1);
        c.x.quit(1);
        c.due("what ended isn't undone", c.key(2, 1), 9);
        c.x.open(0);
        c.x.put(0, 15, 1, 1);
        c.x.cut(0, 15, 1);
        c.due("its own put cut", c.x.count(1), 4);
        c.x.end(0);
        c.due("goes with its end", c.x.count(1), 3);
    }

    private static void lettingOn() {
        Case c = four("order", 4);
        c.x.grab(0, 10, 1);
        c.x.set(2, 10, 1, 3);
        c.x.set(1, 10, 1, 2);
        c.x.set(3, 10, 1, 4);
        c.x.end(0);
        c.due("the longest first", c.x.outcome(2), 100);
        c.due("WAITS yet", c.x.outcome(1), -2);
        c.due("for c", c.x.hand(1, 1), 4);
        c.due("d for c", c.x.hand(3, 1), 4);
        c.x.end(2);
        c.due("then b", c.x.outcome(1), 3);
        c.due("d for b", c.x.hand(3, 1), 2);
        c.x.quit(1);
        c.due("then d", c.x.outcome(3), 3);
        c.due("value", c.key(0, 1), 4);
        Case d = four("pass by", 4);
        d.x.seek(0, 10, 1);
        d.x.grab(1, 20, 1);
        d.x.set(2, 10, 1, 1);
        d.x.seek(3, 20, 1);
        d.x.end(1);
        d.due("the first one WAITS on", d.x.outcome(2), -2);
        d.due("the next one is let on", d.x.outcome(3), 200);
        d.due("in its place", d.x.queue(0), 2);
    }

    private static void otherNeeds() {
        Case c = four("needs", 4);
        c.x.put(0, 25, 1, 5);
        c.x.seek(2, 22, 1);
        c.x.put(1, 25, 1, 6);
        c.x.grab(3, 25, 1);
        c.due("b WAITS ahead of d", c.x.queue(0) * 10 + c.x.queue(1), 13);
        c.x.quit(0);
        c.due("d has been let on", c.x.outcome(3), -4);
        c.due("its GAP", c.x.lock(3, 2, 0), 1);
        c.due("stops b, too", c.x.stops(1, 25, 1, 2), 12);
        c.due("b WAITS for both", c.x.hand(1, 1), 12);
        c.x.end(2);
        c.due("for d yet", c.x.hand(1, 1), 8);
        c.x.end(3);
        c.due("then it comes", c.x.outcome(1), 4);
        Case d = four("last", 4);
        d.x.cut(0, 10, 1);
        d.x.grab(3, 20, 1);
        d.x.scan(1, 100001, 200001);
        d.x.put(2, 20, 1, 1);
        d.due("b ahead of c", d.x.queue(0), 1);
        d.x.end(0);
        d.due("another need: the last", d.x.queue(0) * 10 + d.x.queue(1), 21);
        d.due("for d", d.x.hand(1, 1), 8);
    }

    private static void dying() {
        Case c = four("die", 3);
        c.x.set(0, 10, 1, 1);
        c.x.set(1, 20, 1, 2);
        c.x.set(2, 30, 1, 3);
        c.due("a for b", c.x.seek(0, 20, 1), -2);
        c.due("b for c", c.x.seek(1, 30, 1), -2);
        c.due("c would for a", c.x.seek(2, 10, 1), -3);
        c.due("undone", c.key(2, 1), 300);
        c.due("shut", c.x.hand(2, 0), 0);
        c.due("died once", c.x.hand(2, 3), 1);
        c.due("all", c.x.count(8), 1);
        c.due("no locks", c.x.hand(2, 2), 0);
        c.due("b is let on", c.x.outcome(1), 300);
        c.due("outcome", c.x.outcome(2), -3);
        c.due("a WAITS", c.x.outcome(0), -2);
        c.due("b would for a", c.x.grab(1, 10, 1), -3);
        c.due("a is let on", c.x.outcome(0), 200);
        c.due("all", c.x.count(8), 2);
        c.due("open again", c.x.open(2), 0);
        c.due("how often stays", c.x.hand(2, 3), 1);
        Case d = four("upgrade", 2);
        d.x.seek(0, 10, 1);
        d.x.seek(1, 10, 1);
        d.due("a WAITS", d.x.grab(0, 10, 1), -2);
        d.due("b DIES", d.x.grab(1, 10, 1), -3);
        d.due("a has it", d.x.outcome(0), 100);
        Case e = four("gaps", 2);
        e.x.seek(0, 15, 1);
        e.x.seek(1, 15, 1);
        e.due("a WAITS", e.x.put(0, 15, 1, 1), -2);
        e.due("b DIES", e.x.put(1, 16, 1, 1), -3);
        e.due("a puts", e.x.outcome(0), 4);
        diesWhenLetOn();
    }

    /** b is let on from one KEY and would then WAIT for d, which WAITS for b. */
    private static void diesWhenLetOn() {
        Case c = four("die later", 4);
        c.x.grab(0, 10, 1);
        c.x.grab(3, 20, 1);
        c.x.seek(1, 30, 1);
        c.x.scan(1, 100001, 200001);
        c.due("d for b", c.x.grab(3, 30, 1), -2);
        c.x.end(0);
        c.due("b died", c.x.outcome(1), -3);
        c.due("d is let on", c.x.outcome(3), 300);
        c.due("once", c.x.count(8), 1);
        c.due("none WAIT", c.x.count(7), 0);
        Case d = four("from the first one again", 4);
        d.x.grab(0, 10, 1);
        d.x.grab(3, 20, 1);
        d.x.seek(1, 30, 1);
        d.due("d for b", d.x.grab(3, 30, 1), -2);
        d.due("b for a", d.x.scan(1, 100001, 200001), -2);
        d.x.end(0);
        d.due("b died", d.x.outcome(1), -3);
        d.due("d is let on, being ahead of it", d.x.outcome(3), 300);
    }

    private static void outcome() {
        Case c = four("outcome", 0);
        c.due("nothing was done", c.x.outcome(0), -1);
        c.x.seek(0, 10, 1);
        c.due("nothing was done", c.x.outcome(0), -1);
        c.x.open(0);
        c.due("open", c.x.outcome(0), 0);
        c.x.seek(0, 10, 1);
        c.due("seek", c.x.outcome(0), 100);
        c.x.open(0);
        c.x.seek(0, 1, 0);
        c.due("NONE isn't looked at", c.x.outcome(0), 100);
        c.x.open(1);
        c.x.cut(1, 10, 1);
        c.due("WAITS", c.x.outcome(1), -2);
        c.x.seek(1, 20, 1);
        c.due("WAITS yet", c.x.outcome(1), -2);
        c.x.quit(0);
        c.due("quit", c.x.outcome(0), 0);
        c.due("as it came", c.x.outcome(1), 100);
        c.x.put(1, 20, 1, 1);
        c.due("double", c.x.outcome(1), -4);
        c.x.end(1);
        c.due("end", c.x.outcome(1), 0);
    }

    private static void wakesAndLoses() {
        Case c = four("wakes", 4);
        c.x.set(0, 10, 1, 150);
        c.x.put(0, 15, 1, 7);
        c.x.cut(0, 20, 1);
        c.due("loses", c.x.loses(0), -57);
        c.due("none WAITS", c.x.wakes(0), 0);
        c.x.set(1, 10, 1, 1);
        c.x.set(2, 10, 1, 2);
        c.x.put(3, 15, 1, 3);
        c.due("b and d", c.x.wakes(0), 10);
        c.due("with what they do then", c.x.loses(0), 504 - 657);
        c.due("of b none", c.x.wakes(1), 0);
        c.due("of b nothing", c.x.loses(1), 0);
        c.due("all is as it was", c.x.count(9), 657);
        c.due("all is as it was", c.x.queue(0) * 100 + c.x.queue(1) * 10 + c.x.queue(2), 123);
        c.x.end(0);
        c.due("a is shut", c.x.wakes(0), -1);
        c.due("a is shut", c.x.loses(0), Integer.MIN_VALUE);
        Case d = four("wakes by death", 4);
        d.x.grab(0, 10, 1);
        d.x.grab(3, 20, 1);
        d.x.seek(1, 30, 1);
        d.x.scan(1, 100001, 200001);
        d.x.grab(3, 30, 1);
        d.due("b would DIE, d go on", d.x.wakes(0), 10);
        d.due("none died", d.x.count(8), 0);
        Case e = new Case("behind trials", "hand a;hand b;hand c;key 10 1 1;open a;open b;grab a 10 1;seek b 9 1;", 8);
        e.x.run(24);
        e.x.open(2);
        e.x.put(2, 8, 1, 5);
        for (int what = 0; what <= 4; what++) {
            e.x.tried(what, 0);
            e.due("put WAITS for b's GAP, too", e.x.wakes(0), 0);
            e.due("nothing comes", e.x.loses(0), 0);
            e.due("b's quit lets it come", e.x.loses(1), 5);
        }
        Case f = four("with another need", 3);
        f.x.put(0, 15, 1, 5);
        f.x.put(2, 15, 1, 6);
        f.x.seek(1, 12, 1);
        for (int what = 0; what <= 4; what++) {
            f.x.tried(what, 0);
            f.due("c WAITS for b then", f.x.wakes(0), 0);
            f.due("a's goes", f.x.loses(0), -5);
        }
        e.x.swapped(0);
        e.due("b's quit lets it come", e.x.wakes(1), 4);
    }
}
