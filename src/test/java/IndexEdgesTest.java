/** Promises 6 to 17, 33 to 36, 38, 39, 45, at their edges: the INDEX empty and full, places just there and just not. */
final class IndexEdgesTest {
    private static final int LEAST = Integer.MIN_VALUE;
    private static final int MOST = Integer.MAX_VALUE;
    private static final int[] FAR = {-1, LEAST, MOST};

    public static void main(String[] args) {
        keyThrows();
        keyCutAndPut();
        bitsAtEnds();
        placeAtEnds();
        widthAtEnds();
        sumAndMean();
        widest();
        lockAtEnds();
        lockAtEnd();
        handAtEnds();
        queueAtEnds();
        stopsAtEnds();
        ringAtEnds();
        freeAtEnds();
        heldAtEnds();
        rangeAtEnds();
        phantomsAtEnds();
        betweenAtEnds();
        ratioAtEnds();
        nearestAtEnds();
        behindWhatVanished();
        Case.finish();
    }

    /** 16 KEYS told (10, 20 .. 160), a is OPEN and puts eight more (1000 .. 1007); b .. e are OPEN. */
    private static Case full(String name) {
        StringBuilder s = new StringBuilder("hand a;hand b;hand c;hand d;hand e;");
        for (int i = 1; i <= 16; i++) {
            s.append("key ").append(10 * i).append(" 1 ").append(i).append(';');
        }
        Case c = new Case(name, s.toString(), 21);
        for (int i = 0; i < 5; i++) {
            c.x.open(i);
        }
        for (int i = 0; i < 8; i++) {
            c.due("put", c.x.put(0, 1000 + i, 1, 1), 17 + i);
        }
        return c;
    }

    /** "IndexOutOfBoundsException: no such KEY. NoSuchElementException: no such what." */
    private static void keyThrows() {
        String place = "IndexOutOfBoundsException";
        String what = "NoSuchElementException";
        Case c = new Case("key", "key 1 1 5;key 2 1 6;", 2);
        for (int far : new int[] {-1, 2, 3, 24, LEAST, MOST}) {
            c.due("place " + far, c.thrownByKey(far, 0), place);
            c.due("place " + far + " and what", c.thrownByKey(far, 4), place);
        }
        for (int far : new int[] {-1, 4, 5, LEAST, MOST}) {
            c.due("what " + far, c.thrownByKey(0, far), what);
            c.due("what " + far, c.thrownByKey(1, far), what);
        }
        for (int right = 0; right < 4; right++) {
            c.due("what " + right, c.thrownByKey(1, right), "nothing");
        }
        Case d = full("full");
        d.due("the 24th", d.key(23, 0), Case.bits(1007f));
        d.due("END", d.thrownByKey(24, 0), place);
        d.due("beyond", d.thrownByKey(25, 0), place);
    }

    /** "2 the HAND by which it is CUT (-2: none), 3 the HAND that put it and is OPEN or WAITS yet (-2: none)" */
    private static void keyCutAndPut() {
        Case c = new Case("cut and put", "hand a;hand b;key 1 1 5;key 3 1 6;", 4);
        c.x.open(0);
        c.x.open(1);
        c.due("put", c.x.put(0, 2, 1, 7), 3);
        c.due("HAND 0 put it", c.key(1, 3), 0);
        c.due("none put it", c.key(0, 3), -2);
        c.due("cut", c.x.cut(0, 1, 1), 5);
        c.due("HAND 0 CUT it", c.key(0, 2), 0);
        c.due("none CUT it", c.key(1, 2), -2);
        c.due("what it put is CUT by it", c.x.cut(0, 2, 1), 7);
        c.due("CUT", c.key(1, 2), 0);
        c.due("put", c.key(1, 3), 0);
        c.x.grab(1, 3, 1);
        c.due("WAITS", c.x.seek(0, 3, 1), -2);
        c.due("put by one that WAITS", c.key(1, 3), 0);
        c.due("CUT by one that WAITS", c.key(0, 2), 0);
        c.x.end(1);
        c.x.end(0);
        c.due("one is left", c.x.count(1), 1);
        c.due("of it", c.key(0, 2) * 10 + c.key(0, 3), -22);
    }

    /** "BITS of the KEY told by two numbers; NONE: no such ones." */
    private static void bitsAtEnds() {
        Case c = new Case("bits");
        c.due("0", c.x.bits(0, 1), 0);
        c.due("0", c.x.bits(0, 9999), 0);
        c.due("the greatest", c.x.bits(99999999, 1), Case.bits(100000000f));
        c.due("the least above 0", c.x.bits(1, 9999), Case.bits(1f / 9999f));
        c.due("both great", c.x.bits(99999999, 9999), Case.bits(99999999f / 9999f));
        int[][] none = {{-1, 1}, {100000000, 1}, {1, 0}, {1, 10000}, {1, -1}, {LEAST, 1}, {MOST, 1}, {1, LEAST}, {1, MOST}, {-1, 0}};
        for (int[] two : none) {
            c.due("bits(" + two[0] + ", " + two[1] + ")", c.x.bits(two[0], two[1]), -1);
            c.due("place(" + two[0] + ", " + two[1] + ")", c.x.place(two[0], two[1]), -1);
            c.due("nearest(" + two[0] + ", " + two[1] + ")", c.x.nearest(two[0], two[1]), -1);
        }
        int[][] ties = {{16777217, 16777216}, {16777219, 16777220}, {33554434, 33554432}, {33554438, 33554440}, {67108868, 67108864},
            {67108876, 67108880}, {99999996, 100000000}, {99999988, 99999984}};
        for (int[] tie : ties) {
            c.due("the even one of two as near as " + tie[0], c.x.bits(tie[0], 1), Case.bits((float) (double) tie[1]));
        }
        c.due("divided as a float", c.x.bits(16777217, 16), Case.bits(1048576f));
    }

    /** "the first KEY that is that KEY or more (END's: there is none)" */
    private static void placeAtEnds() {
        Case c = new Case("place", "key 0 1 1;key 1 3 1;key 99999999 1 1;", 3);
        c.due("0", c.x.place(0, 5), 0);
        c.due("above 0", c.x.place(1, 9999), 1);
        c.due("the KEY", c.x.place(3333, 9999), 1);
        c.due("just more", c.x.place(33334, 9999), 2);
        c.due("the greatest", c.x.place(99999999, 1), 2);
        c.due("the same float", c.x.place(99999996, 1), 2);
        Case d = new Case("place", "key 5 1 1;", 1);
        d.due("END", d.x.place(501, 100), 1);
        d.due("not END", d.x.place(499, 100), 0);
        d.due("full", full("full").x.place(1008, 1), 24);
    }

    /** "of the first one than 0"; "NONE: no such KEY, what." */
    private static void widthAtEnds() {
        Case c = new Case("width", "key 0 1 1;key 1 3 1;key 99999999 1 1;", 3);
        c.due("of 0", c.x.width(0, 0), 0);
        c.due("middle of 0 and 0", c.x.width(0, 1), 0);
        c.due("from 0", c.x.width(1, 0), Case.bits(1f / 3f));
        c.due("the last", c.x.width(2, 0), Case.bits(100000000f - 1f / 3f));
        c.due("middle", c.x.width(2, 1), Case.bits((100000000f + 1f / 3f) / 2f));
        for (int far : new int[] {-1, 3, LEAST, MOST}) {
            c.due("place", c.x.width(far, 0), -1);
            c.due("place", c.x.width(far, 1), -1);
        }
        for (int far : new int[] {-1, 2, LEAST, MOST}) {
            c.due("what", c.x.width(0, far), -1);
        }
        c.due("both", c.x.width(3, 2), -1);
        Case d = new Case("one", "key 3 1 1;", 1);
        d.due("width", d.x.width(0, 0), Case.bits(3f));
        d.due("middle", d.x.width(0, 1), Case.bits(1.5f));
        Case e = full("full");
        e.due("the 24th", e.x.width(23, 0), Case.bits(1f));
        e.due("END", e.x.width(24, 0), -1);
        Case f = new Case("tie", "key 1 1 1;key 16777216 1 1;key 33554430 1 1;", 3);
        f.due("the sum is rounded to the even one", f.x.width(1, 1), Case.bits(8388608f));
        f.due("and then halved", f.x.width(2, 1), Case.bits(25165824f));
    }

    private static void sumAndMean() {
        Case c = new Case("one", "key 7 3 1;", 1);
        c.due("sum", c.x.sum(), Case.bits(7f / 3f));
        c.due("mean", c.x.mean(), Case.bits(7f / 3f));
        Case d = new Case("lost", "key 16777216 1 1;key 1 1 1;key 1 2 1;key 1 4 1;", 4);
        d.due("the least first", d.x.sum(), Case.bits(16777218f));
        d.due("mean", d.x.mean(), Case.bits(4194304.5f));
        Case e = full("full");
        e.due("of 24", e.x.sum(), Case.bits(1360f + 8028f));
        e.due("by 24", e.x.mean(), Case.bits(9388f / 24f));
        e.x.cut(0, 10, 1);
        e.due("CUT ones are there", e.x.sum(), Case.bits(9388f));
        Case f = new Case("great", "hand a;key 99999999 1 1;key 99999990 1 1;key 99999980 1 1;key 99999970 1 1;", 5);
        f.due("rounded each time", f.x.sum(), Case.bits(((99999968f + 99999984f) + 99999992f) + 100000000f));
    }

    /** "the first of several; -2: there are none" */
    private static void widest() {
        c("the first", "key 10 1 1;key 11 1 1;key 12 1 1;", 3, 0);
        c("the last", "key 1 1 1;key 2 1 1;key 12 1 1;", 3, 2);
        c("of two the first", "key 5 1 1;key 10 1 1;", 2, 0);
        c("of two behind it", "key 1 1 1;key 5 1 1;key 9 1 1;key 10 1 1;", 4, 1);
        c("one of 0", "key 0 1 1;", 1, 0);
        c("0 and another", "key 0 1 1;key 1 9999 1;", 2, 1);
        c("none", "", 0, -2);
        c("small ones", "key 1 4 1;key 3 4 1;key 5 4 1;", 3, 1);
        c("alike as floats", "key 33554432 1 1;key 67108866 1 1;", 2, 0);
    }

    private static void c(String name, String text, int lines, int want) {
        Case c = new Case("widest: " + name, text, lines);
        c.due("widest", c.x.widest(), want);
    }

    /** "NONE: no such ones." of lock */
    private static void lockAtEnds() {
        Case c = full("lock");
        c.x.scan(4, 9990001, 99990001);
        c.due("WAITS at the KEYS put", c.x.hand(4, 0), 2);
        c.due("its GAP", c.x.lock(4, 16, 0), 1);
        c.due("not the KEY", c.x.lock(4, 16, 1), 0);
        c.due("of the first HAND", c.x.lock(0, 16, 1), 2);
        c.due("the last KEY", c.x.lock(0, 23, 1), 2);
        c.due("END's KEY", c.x.lock(0, 24, 1), 0);
        c.due("END's GAP", c.x.lock(0, 24, 0), 0);
        for (int far : new int[] {-1, 25, LEAST, MOST}) {
            c.due("place " + far, c.x.lock(0, far, 0), -1);
            c.due("place " + far, c.x.lock(0, far, 1), -1);
        }
        for (int far : new int[] {-1, 5, 31, 32, LEAST, MOST}) {
            c.due("HAND " + far, c.x.lock(far, 0, 0), -1);
        }
        for (int far : new int[] {-1, 2, LEAST, MOST}) {
            c.due("what " + far, c.x.lock(0, 0, far), -1);
        }
    }

    /** END has a GAP and no KEY, whatever stood at its place before. */
    private static void lockAtEnd() {
        Case c = new Case("END", "hand a;hand b;key 1 1 1;key 2 1 2;", 4);
        c.x.open(0);
        c.x.open(1);
        c.x.put(0, 3, 1, 3);
        c.x.grab(0, 2, 1);
        c.x.quit(0);
        c.due("END's KEY", c.x.lock(0, 2, 1), 0);
        c.x.open(0);
        c.x.cut(0, 2, 1);
        c.x.scan(1, 10001, 10001);
        c.x.end(0);
        c.due("KEYS", c.x.count(1), 1);
        c.due("END's KEY", c.x.lock(1, 1, 1) + c.x.lock(0, 1, 1), 0);
        c.due("END's GAP", c.x.lock(1, 1, 0), 1);
        c.due("no place behind END", c.x.lock(1, 2, 0), -1);
    }

    private static void handAtEnds() {
        Case c = full("hand");
        for (int far : new int[] {-1, 5, 31, 32, LEAST, MOST}) {
            c.due("HAND " + far, c.x.hand(far, 0), -1);
        }
        for (int far : new int[] {-1, 5, LEAST, MOST}) {
            c.due("what " + far, c.x.hand(0, far), -1);
            c.due("both", c.x.hand(5, far), -1);
        }
        c.due("the last HAND", c.x.hand(4, 0), 1);
        c.due("LOCKS: the KEYS it put", c.x.hand(0, 2), 8);
        c.due("changes", c.x.hand(0, 4), 8);
        c.due("LOCKS of all places", c.x.scan(0, 1, 99990001), 136 + 8);
        c.due("a GAP, a KEY one each", c.x.hand(0, 2), 49);
        c.due("of all", c.x.count(5), 49);
        c.x.end(0);
        c.due("shut: no LOCKS", c.x.hand(0, 2), 0);
        c.due("shut: no changes", c.x.hand(0, 4), 0);
        c.due("shut", c.x.hand(0, 0), 0);
        c.due("shut: WAITS for none", c.x.hand(0, 1), 0);
    }

    /** "from 0 on; -2: there are no so many; NONE: k is below 0" */
    private static void queueAtEnds() {
        Case c = full("queue");
        c.due("none WAIT", c.x.queue(0), -2);
        for (int i = 4; i >= 1; i--) {
            c.due("WAITS", c.x.seek(i, 1000, 1), -2);
            c.due("the last", c.x.queue(4 - i), i);
            c.due("no more", c.x.queue(5 - i), -2);
        }
        c.due("the longest", c.x.queue(0), 4);
        c.due("far", c.x.queue(5), -2);
        c.due("far", c.x.queue(MOST), -2);
        c.due("below", c.x.queue(-1), -1);
        c.due("below", c.x.queue(LEAST), -1);
        c.due("all four WAIT for a", c.x.hand(1, 1) + c.x.hand(2, 1) + c.x.hand(3, 1) + c.x.hand(4, 1), 4);
    }

    /** "of 0, 1 none, if it isn't there. NONE: no such ones." */
    private static void stopsAtEnds() {
        Case c = full("stops");
        c.x.seek(1, 5, 1);
        c.x.seek(2, 2000, 1);
        c.x.seek(3, 10, 1);
        c.x.seek(4, 10, 1);
        c.due("not there: shared", c.x.stops(0, 2000, 1, 0), 0);
        c.due("not there: whole", c.x.stops(0, 2000, 1, 1), 0);
        c.due("not there: put at END", c.x.stops(0, 2000, 1, 2), 4);
        c.due("its own GAP doesn't stop it", c.x.stops(2, 2000, 1, 2), 0);
        c.due("put at the first place", c.x.stops(0, 5, 1, 2), 2);
        c.due("whole of two", c.x.stops(0, 10, 1, 1), 24);
        c.due("whole of the other", c.x.stops(3, 10, 1, 1), 16);
        c.due("shared of shared ones", c.x.stops(0, 10, 1, 0), 0);
        c.due("the last KEY", c.x.stops(1, 1007, 1, 0), 1);
        c.due("put of it", c.x.stops(1, 1007, 1, 2), 1);
        c.due("put of a shared one, there", c.x.stops(0, 10, 1, 2), 0);
        for (int far : new int[] {-1, 5, 32, LEAST, MOST}) {
            c.due("HAND " + far, c.x.stops(far, 10, 1, 0), -1);
        }
        for (int far : new int[] {-1, 3, LEAST, MOST}) {
            c.due("what " + far, c.x.stops(0, 10, 1, far), -1);
        }
        int[][] none = {{-1, 1}, {100000000, 1}, {1, 0}, {1, 10000}, {1, -1}};
        for (int[] two : none) {
            c.due("KEY", c.x.stops(0, two[0], two[1], 2), -1);
        }
        c.x.end(0);
        c.due("a shut HAND", c.x.stops(0, 10, 1, 1), 24);
    }

    /** "NONE: no such HANDS, alike, the first isn't OPEN" */
    private static void ringAtEnds() {
        Case c = full("ring");
        c.due("no ring", c.x.ring(0, 4), 0);
        c.due("no ring", c.x.ring(4, 0), 0);
        for (int far : new int[] {-1, 5, 32, LEAST, MOST}) {
            c.due("the first is " + far, c.x.ring(far, 0), -1);
            c.due("the other is " + far, c.x.ring(0, far), -1);
            c.due("alike", c.x.ring(far, far), -1);
        }
        c.due("alike", c.x.ring(4, 4), -1);
        c.x.grab(4, 10, 1);
        c.x.grab(3, 20, 1);
        c.x.grab(2, 30, 1);
        c.x.grab(1, 40, 1);
        c.x.seek(4, 20, 1);
        c.x.seek(3, 30, 1);
        c.x.seek(2, 40, 1);
        c.due("along four", c.x.ring(1, 4), 1);
        c.due("a would not", c.x.ring(0, 4), 0);
        c.due("one that WAITS", c.x.ring(4, 1), -1);
        c.due("direct", c.x.ring(1, 2), 1);
        c.due("DIES so", c.x.seek(1, 10, 1), -3);
        c.due("shut", c.x.ring(1, 4), -1);
        c.due("to a shut one", c.x.ring(0, 1), 0);
        Case d = full("ring by two");
        d.x.seek(1, 10, 1);
        d.x.seek(2, 10, 1);
        d.x.grab(3, 20, 1);
        d.due("waits for b and c", d.x.grab(4, 10, 1), -2);
        d.due("b would wait for itself", d.x.ring(1, 4), 1);
        d.due("c too", d.x.ring(2, 4), 1);
        d.due("c waits for d", d.x.seek(2, 20, 1), -2);
        d.due("b still would, by the other way", d.x.ring(1, 4), 1);
        d.due("d would, along c and e", d.x.ring(3, 4), 1);
        d.due("a would not", d.x.ring(0, 4), 0);
        d.due("b may wait for d", d.x.grab(1, 20, 1), -2);
    }

    /** "Places (bits, END's too) of which nobody has the GAP." */
    private static void freeAtEnds() {
        Case c = full("free");
        c.due("25 places", c.x.free(), (1 << 25) - 1);
        c.x.seek(1, 5, 1);
        c.due("the first isn't", c.x.free(), (1 << 25) - 2);
        c.x.seek(4, 2000, 1);
        c.due("END's isn't", c.x.free(), (1 << 24) - 2);
        c.x.scan(0, 1, 99990001);
        c.due("none", c.x.free(), 0);
        Case d = new Case("no KEYS", "hand a;", 1);
        d.x.open(0);
        d.due("END's", d.x.free(), 1);
        d.due("scan", d.x.scan(0, 1, 1), 0);
        d.due("none", d.x.free(), 0);
    }

    /** "-2: there are no so many; NONE: no such HAND, k is below 0" */
    private static void heldAtEnds() {
        Case c = full("held");
        c.x.scan(0, 1, 99990001);
        for (int k = 0; k < 49; k++) {
            int want = k % 2 == 0 ? 10 * (k / 2) : 10 * (k / 2) + (k / 2 >= 16 ? 2 : 1);
            c.due("held " + k, c.x.held(0, k), want);
        }
        c.due("no more", c.x.held(0, 49), -2);
        c.due("far", c.x.held(0, MOST), -2);
        c.due("none", c.x.held(4, 0), -2);
        for (int far : new int[] {-1, 5, 32, LEAST, MOST}) {
            c.due("HAND " + far, c.x.held(far, 0), -1);
        }
        c.due("below", c.x.held(0, -1), -1);
        c.due("below", c.x.held(0, LEAST), -1);
        c.due("both", c.x.held(5, -1), -1);
    }

    /** "(told as for scan)": "10000 times its first number (0 .. 99999) and its second one" */
    private static void rangeAtEnds() {
        Case c = new Case("range", "hand a;key 0 1 1;key 99999 1 2;key 99999 9999 4;key 1 2 8;", 5);
        c.due("0 alone", c.x.range(1, 1, 1), 1);
        c.due("0 told otherwise", c.x.range(9999, 5, 1), 1);
        c.due("the greatest alone", c.x.range(999990001, 999990001, 1), 2);
        c.due("by 9999", c.x.range(999999999, 999999999, 1), 4);
        c.due("a half", c.x.range(10002, 10002, 1), 8);
        c.due("all", c.x.range(1, 999990001, 1), 15);
        c.due("all but 0", c.x.range(19999, 999990001, 0), 3);
        c.due("all but the last", c.x.range(1, 999980001, 0), 3);
        for (int far : new int[] {-1, 0, 10000, 20000, 999990000, 1000000000, 1000000001, LEAST, MOST}) {
            c.due("low " + far, c.x.range(far, 999990001, 0), -1);
            c.due("high " + far, c.x.range(1, far, 0), -1);
            c.due("phantoms low " + far, c.x.phantoms(0, far, 999990001), -1);
            c.due("phantoms high " + far, c.x.phantoms(0, 1, far), -1);
            c.due("scan low " + far, c.x.scan(0, far, 999990001), -1);
            c.due("scan high " + far, c.x.scan(0, 1, far), -1);
        }
        for (int far : new int[] {-1, 3, LEAST, MOST}) {
            c.due("what " + far, c.x.range(1, 10001, far), -1);
        }
        c.due("turned", c.x.range(10002, 1, 0), -1);
        c.due("turned as floats", c.x.range(10001, 10002, 0), -1);
        c.due("not turned as floats", c.x.range(20004, 10002, 0), 1);
        c.x.open(0);
        c.x.cut(0, 0, 1);
        c.x.cut(0, 1, 2);
        c.due("two CUT", c.x.range(1, 999990001, 2), 2);
        c.due("counted", c.x.count(10), 2);
        c.due("the first CUT", c.x.range(1, 1, 2), 1);
    }

    /** "from that of the first KEY that is low or more to the one behind the last KEY that is high or less" */
    private static void phantomsAtEnds() {
        Case c = new Case("phantoms", "hand a;hand b;hand c;hand d;hand e;key 10 1 1;key 20 1 1;", 7);
        for (int i = 0; i < 5; i++) {
            c.x.open(i);
        }
        c.due("no GAPS at all", c.x.phantoms(0, 1, 999990001), 30);
        c.due("others than the HAND", c.x.phantoms(4, 1, 999990001), 15);
        c.x.scan(0, 100001, 100001);
        c.due("a's range", c.x.phantoms(0, 100001, 100001), 0);
        c.due("a KEY short of it", c.x.phantoms(0, 50001, 90001), 0);
        c.due("no KEY in it: the place where it would be", c.x.phantoms(0, 110001, 190001), 0);
        c.due("up to the last KEY", c.x.phantoms(0, 100001, 200001), 30);
        c.due("from the last KEY on", c.x.phantoms(0, 200001, 200001), 30);
        c.due("END alone", c.x.phantoms(0, 210001, 220001), 30);
        c.due("0", c.x.phantoms(0, 1, 1), 0);
        c.due("for a, no GAP of others", c.x.phantoms(1, 100001, 100001), 1);
        c.x.seek(4, 5, 1);
        c.due("for a one of the two is e's", c.x.phantoms(1, 100001, 100001), 1);
        c.x.seek(4, 15, 1);
        c.due("for a both are e's", c.x.phantoms(1, 100001, 100001), 0);
        c.due("for e both are a's", c.x.phantoms(0, 100001, 100001), 0);
        c.x.end(3);
        c.due("shut ones aren't told", c.x.phantoms(0, 200001, 200001), 22);
        c.due("a shut one may ask", c.x.phantoms(3, 200001, 200001), 23);
        for (int far : new int[] {-1, 5, 32, LEAST, MOST}) {
            c.due("HAND " + far, c.x.phantoms(far, 1, 10001), -1);
        }
        c.due("turned", c.x.phantoms(0, 20001, 10001), -1);
        c.due("alike", c.x.phantoms(0, 10001, 20002), 0);
    }

    /** "(of the first one and 0; 0, if it is 0); NONE: no such KEY" */
    private static void betweenAtEnds() {
        Case c = new Case("between", "hand a;key 1 9999 1;key 99999999 1 1;", 3);
        c.due("from 0", c.x.between(0), Case.bits(1f / 9999f) - 1);
        c.due("to the greatest", c.x.between(1), Case.bits(100000000f) - Case.bits(1f / 9999f) - 1);
        for (int far : new int[] {-1, 2, LEAST, MOST}) {
            c.due("place " + far, c.x.between(far), -1);
        }
        Case d = new Case("0", "hand a;key 0 1 1;", 2);
        d.due("it is 0", d.x.between(0), 0);
        d.x.open(0);
        d.x.putNext(0, 0, 1);
        d.due("next to 0", d.x.between(1), 0);
        d.x.putNext(0, 1, 1);
        d.x.cut(0, 0, 1);
        d.x.end(0);
        d.due("the float next above 0 is the first one", d.x.between(0), 0);
        d.due("the one behind it", d.x.between(1), 0);
        Case e = full("full");
        e.due("the 24th", e.x.between(23), Case.bits(1007f) - Case.bits(1006f) - 1);
        e.due("END", e.x.between(24), -1);
    }

    /** "-2: that is 0; NONE: no such ones" */
    private static void ratioAtEnds() {
        Case c = new Case("ratio", "key 0 1 1;key 1 9999 1;key 99999999 1 1;", 3);
        c.due("by 0", c.x.ratio(2, 0), -2);
        c.due("0 by 0", c.x.ratio(0, 0), -2);
        c.due("0 by", c.x.ratio(0, 2), 0);
        c.due("great", c.x.ratio(2, 1), Case.bits(100000000f / (1f / 9999f)));
        c.due("small", c.x.ratio(1, 2), Case.bits(1f / 9999f / 100000000f));
        for (int far : new int[] {-1, 3, LEAST, MOST}) {
            c.due("one " + far, c.x.ratio(far, 1), -1);
            c.due("one " + far + " by 0", c.x.ratio(far, 0), -1);
            c.due("other " + far, c.x.ratio(1, far), -1);
        }
        Case d = full("full");
        d.due("the 24th by the first", d.x.ratio(23, 0), Case.bits(1007f / 10f));
        d.due("END", d.x.ratio(24, 0), -1);
        d.due("END", d.x.ratio(0, 24), -1);
    }

    /** "the first of several; -2: there are none" */
    private static void nearestAtEnds() {
        Case c = new Case("nearest", "key 1 4 1;key 1 2 1;key 3 4 1;", 3);
        c.due("below all", c.x.nearest(0, 1), 0);
        c.due("the KEY", c.x.nearest(2, 4), 1);
        c.due("of two the first", c.x.nearest(5, 8), 1);
        c.due("of two the first", c.x.nearest(3, 8), 0);
        c.due("above it by less than 1", c.x.nearest(74, 100), 2);
        c.due("below it by less than 1", c.x.nearest(51, 100), 1);
        c.due("above all", c.x.nearest(1, 1), 2);
        Case d = new Case("nearest", "key 33554432 1 1;key 99999999 1 1;", 2);
        d.due("by floats", d.x.nearest(66777216, 1), 0);
        d.due("above", d.x.nearest(66777224, 1), 1);
        Case e = full("full");
        e.due("the 24th", e.x.nearest(2000, 1), 23);
        e.due("the first of four as far, as floats", e.x.nearest(99999999, 1), 20);
        e.due("the first", e.x.nearest(0, 1), 0);
        Case f = new Case("far", "key 0 1 1;key 1 1 1;key 2 1 1;", 3);
        f.due("all as far, as floats", f.x.nearest(67108864, 1), 0);
    }

    /** What once stood behind the last KEY counts for nothing. */
    private static void behindWhatVanished() {
        Case c = new Case("vanished", "hand a;key 1 1 10;key 2 1 20;", 3);
        c.x.open(0);
        c.x.put(0, 3, 1, 30);
        c.x.put(0, 4, 1, 40);
        c.x.cut(0, 4, 1);
        c.x.quit(0);
        c.due("sum", c.x.sum(), Case.bits(3f));
        c.due("VALUES", c.x.count(9), 30);
        c.due("CUT", c.x.count(10), 0);
        c.due("range", c.x.range(1, 999990001, 1), 30);
        c.due("widest", c.x.widest(), 0);
        c.due("nearest", c.x.nearest(4, 1), 1);
        c.due("place", c.x.place(3, 1), 2);
        c.due("free", c.x.free(), 7);
        c.due("LOCKS", c.x.count(5), 0);
        for (int far : FAR) {
            c.due("between", c.x.between(far), -1);
        }
        c.due("key", c.thrownByKey(2, 0), "IndexOutOfBoundsException");
    }
}
