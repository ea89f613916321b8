/** Terms 2 and promises 18 to 27, 37, 43, 44, at their edges: calls refused, LOCKS that move, needs that stay or change. */
final class HandEdgesTest {
    private static final int LEAST = Integer.MIN_VALUE;
    private static final int MOST = Integer.MAX_VALUE;
    private static final String FOUR = "hand a;hand b;hand c;hand d;key 10 1 100;key 20 1 200;key 30 1 300;";

    public static void main(String[] args) {
        noSuchHand();
        noSuchKeys();
        shutHand();
        waitingHand();
        locksGoWithKeys();
        newKeyIsNobodysElse();
        wholeStaysWhole();
        manyShareAll();
        scanOfOneAndNone();
        scanStopsMidway();
        seekAtEveryPlace();
        cutStaysTillEnd();
        putDouble();
        putDividesGaps();
        putWaitsForAll();
        putFindsItThere();
        putOfOwnCut();
        fullFirst();
        putFindsTwentyFour();
        putNextAtEdges();
        vanishingInARow();
        vanishingHandsOnLocks();
        quitUndoesTheLatestFirst();
        quitOfOneThatWaits();
        endOfNothing();
        sameNeedNoRing();
        needIsAskedAnew();
        lastWithAnotherNeed();
        deathWakes();
        outcomes();
        wakesAtEdges();
        losesAtEdges();
        Case.finish();
    }

    private static Case four(String name, int opened) {
        Case c = new Case(name, FOUR, 7);
        for (int i = 0; i < opened; i++) {
            c.x.open(i);
        }
        return c;
    }

    /** What a HAND held, by places: numbers as of held(), with blanks between. */
    private static String held(Case c, int hand) {
        StringBuilder s = new StringBuilder();
        for (int k = 0; k < 60; k++) {
            int got = c.x.held(hand, k);
            if (got < 0) {
                break;
            }
            s.append(k == 0 ? "" : " ").append(got);
        }
        return s.toString();
    }

    /** All that a HAND can do with right numbers: each must be answered NONE. */
    private static void allRefused(Case c, int hand, boolean openToo) {
        if (openToo) {
            c.due("open " + hand, c.x.open(hand), -1);
        }
        c.due("scan " + hand, c.x.scan(hand, 100001, 200001), -1);
        c.due("seek " + hand, c.x.seek(hand, 10, 1), -1);
        c.due("grab " + hand, c.x.grab(hand, 10, 1), -1);
        c.due("set " + hand, c.x.set(hand, 10, 1, 1), -1);
        c.due("put " + hand, c.x.put(hand, 11, 1, 1), -1);
        c.due("cut " + hand, c.x.cut(hand, 10, 1), -1);
        c.due("end " + hand, c.x.end(hand), -1);
        c.due("putNext " + hand, c.x.putNext(hand, 0, 1), -1);
    }

    /** "NONE: no such HAND" */
    private static void noSuchHand() {
        Case c = four("no such HAND", 4);
        String before = c.all();
        for (int far : new int[] {-1, 4, 5, 31, 32, LEAST, MOST}) {
            allRefused(c, far, true);
            c.due("quit " + far, c.x.quit(far), -1);
            c.due("outcome " + far, c.x.outcome(far), -5);
            c.due("wakes " + far, c.x.wakes(far), -1);
            c.due("loses " + far, c.x.loses(far), LEAST);
        }
        c.due("all stays", c.all(), before);
    }

    /** "NONE: no such .. KEYS", and a VALUE that is none */
    private static void noSuchKeys() {
        Case c = four("no such KEYS", 1);
        String before = c.all();
        int[][] none = {{-1, 1}, {100000000, 1}, {10, 0}, {10, 10000}, {10, -1}, {LEAST, 1}, {MOST, 1}, {10, LEAST}, {10, MOST}};
        for (int[] two : none) {
            c.due("seek", c.x.seek(0, two[0], two[1]), -1);
            c.due("grab", c.x.grab(0, two[0], two[1]), -1);
            c.due("set", c.x.set(0, two[0], two[1], 1), -1);
            c.due("put", c.x.put(0, two[0], two[1], 1), -1);
            c.due("cut", c.x.cut(0, two[0], two[1]), -1);
        }
        for (int value : new int[] {-1, 10000, LEAST, MOST}) {
            c.due("set of " + value, c.x.set(0, 10, 1, value), -1);
            c.due("put of " + value, c.x.put(0, 11, 1, value), -1);
            c.due("put of one that is there", c.x.put(0, 10, 1, value), -1);
            c.due("putNext of " + value, c.x.putNext(0, 0, value), -1);
        }
        for (int far : new int[] {-1, 0, 100000, 1000000001, LEAST, MOST}) {
            c.due("scan from " + far, c.x.scan(0, far, 999990001), -1);
            c.due("scan to " + far, c.x.scan(0, 1, far), -1);
        }
        c.due("scan turned", c.x.scan(0, 200001, 100001), -1);
        for (int far : new int[] {-1, 3, 24, LEAST, MOST}) {
            c.due("putNext at " + far, c.x.putNext(0, far, 1), -1);
        }
        c.due("all stays", c.all(), before);
        c.due("the least VALUE", c.x.set(0, 10, 1, 0), 100);
        c.due("the greatest VALUE", c.x.set(0, 10, 1, 9999), 0);
        c.due("the least VALUE", c.x.put(0, 11, 1, 0), 4);
        c.due("the greatest VALUE", c.x.put(0, 12, 1, 9999), 5);
    }

    /** "not OPEN (of open: not shut; of quit: shut)" */
    private static void shutHand() {
        Case c = four("shut", 3);
        c.x.end(1);
        c.x.quit(2);
        String before = c.all();
        for (int hand = 1; hand < 4; hand++) {
            allRefused(c, hand, false);
            c.due("quit", c.x.quit(hand), -1);
            c.due("wakes", c.x.wakes(hand), -1);
            c.due("loses", c.x.loses(hand), LEAST);
        }
        c.due("all stays", c.all(), before);
        c.due("open of an OPEN one", c.x.open(0), -1);
        for (int hand = 1; hand < 4; hand++) {
            c.due("open", c.x.open(hand), 0);
        }
    }

    private static void waitingHand() {
        Case c = four("WAITS", 2);
        c.x.grab(0, 10, 1);
        c.due("WAITS", c.x.set(1, 10, 1, 7), -2);
        String before = c.all();
        allRefused(c, 1, true);
        c.due("all stays", c.all(), before);
        c.x.end(0);
        c.due("it went on with what it WAITED for", c.x.outcome(1), 100);
        c.due("its VALUE", c.key(0, 1), 7);
    }

    /** "They go with their KEYS, with END, whatever their places come to be." */
    private static void locksGoWithKeys() {
        Case c = four("LOCKS go with KEYS", 4);
        c.x.scan(1, 200001, 200001);
        c.x.grab(2, 30, 1);
        c.x.seek(2, 99, 1);
        c.x.seek(3, 10, 1);
        c.due("b", held(c, 1), "10 11 20");
        c.due("c", held(c, 2), "22 30");
        c.due("d", held(c, 3), "1");
        c.due("put ahead of all", c.x.put(0, 5, 1, 1), 4);
        c.due("a", held(c, 0), "2");
        c.due("b", held(c, 1), "20 21 30");
        c.due("c", held(c, 2), "32 40");
        c.due("d", held(c, 3), "11");
        c.due("and again", c.x.put(0, 6, 1, 1), 5);
        c.due("a", held(c, 0), "2 12");
        c.due("b", held(c, 1), "30 31 40");
        c.due("c", held(c, 2), "42 50");
        c.due("d", held(c, 3), "21");
        c.x.cut(0, 5, 1);
        c.x.end(0);
        c.due("one VANISHED", c.x.count(1), 4);
        c.due("b", held(c, 1), "20 21 30");
        c.due("c", held(c, 2), "32 40");
        c.due("d", held(c, 3), "11");
        c.due("who stops", c.x.stops(0, 30, 1, 0), 4);
        c.due("who stops", c.x.stops(0, 20, 1, 1), 2);
        c.due("who stops", c.x.stops(0, 10, 1, 1), 8);
        c.due("who stops", c.x.stops(0, 99, 1, 2), 4);
        c.due("who stops", c.x.stops(0, 25, 1, 2), 2);
    }

    /** "then it comes there, whole by the HAND": what others have of the KEY behind isn't at it. */
    private static void newKeyIsNobodysElse() {
        Case c = four("new KEY", 4);
        c.x.seek(1, 10, 1);
        c.x.seek(2, 10, 1);
        c.x.grab(3, 20, 1);
        c.due("put ahead of a shared one", c.x.put(0, 5, 1, 1), 4);
        c.due("b", held(c, 1), "11");
        c.due("c", held(c, 2), "11");
        c.due("put ahead of a whole one", c.x.put(0, 15, 1, 1), 5);
        c.due("d", held(c, 3), "32");
        c.due("a", held(c, 0), "2 22");
        c.due("put ahead of END", c.x.put(0, 40, 1, 1), 6);
        c.due("a", held(c, 0), "2 22 52");
        c.due("none is CUT", c.x.count(10), 0);
        c.x.cut(3, 20, 1);
        c.due("put ahead of a CUT one", c.x.put(0, 16, 1, 1), 7);
        c.due("it isn't CUT", c.key(3, 2), -2);
        c.due("the other one is", c.key(4, 2), 3);
    }

    /** "who has it whole has it shared, too, and keeps it whole" */
    private static void wholeStaysWhole() {
        Case c = four("whole", 2);
        c.x.grab(0, 20, 1);
        c.due("grab again", c.x.grab(0, 20, 1), 200);
        c.due("seek", c.x.seek(0, 20, 1), 200);
        c.due("whole", held(c, 0), "12");
        c.due("scan", c.x.scan(0, 200001, 200001), 200);
        c.due("whole", held(c, 0), "10 12 20");
        c.due("double", c.x.put(0, 20, 1, 1), -4);
        c.due("whole", held(c, 0), "10 12 20");
        c.due("two KEYS' LOCKS and one", c.x.hand(0, 2), 3);
        c.due("another one is stopped", c.x.seek(1, 20, 1), -2);
        Case d = four("from shared", 1);
        d.x.scan(0, 200001, 200001);
        d.due("set", d.x.set(0, 20, 1, 1), 200);
        d.due("whole now", held(d, 0), "10 12 20");
        d.due("cut", d.x.cut(0, 30, 1), 300);
        d.due("whole", held(d, 0), "10 12 20 22");
    }

    /** "FREE .. is a KEY shared, if no other HAND has it whole; .. GAPS always" */
    private static void manyShareAll() {
        Case c = four("all share", 4);
        for (int i = 0; i < 4; i++) {
            c.due("scan", c.x.scan(i, 1, 999990001), 600);
        }
        for (int i = 0; i < 4; i++) {
            c.due("all of it", held(c, i), "0 1 10 11 20 21 30");
        }
        c.due("28 LOCKS", c.x.count(5), 28);
        c.due("whole isn't FREE", c.x.stops(0, 10, 1, 1), 14);
        c.due("nor is a put", c.x.stops(3, 5, 1, 2), 7);
        for (int i = 0; i < 3; i++) {
            c.due("GAP", c.x.grab(i, 15, 1), -4);
        }
        c.due("no more LOCKS", c.x.count(5), 28);
        c.x.end(3);
        c.due("the others' stay", held(c, 0), "0 1 10 11 20 21 30");
        c.due("21", c.x.count(5), 21);
    }

    /** "for each KEY from the first on to the second one (if there) .. then the GAP at the place behind" */
    private static void scanOfOneAndNone() {
        Case c = four("scan of one", 1);
        c.due("one", c.x.scan(0, 200001, 200001), 200);
        c.due("its GAP, it, the GAP behind", held(c, 0), "10 11 20");
        Case d = four("scan of none", 1);
        d.due("between", d.x.scan(0, 110001, 190001), 0);
        d.due("the place behind", held(d, 0), "10");
        Case e = four("scan ahead of all", 1);
        e.due("ahead", e.x.scan(0, 1, 90001), 0);
        e.due("the first place", held(e, 0), "0");
        Case f = four("scan behind all", 1);
        f.due("behind", f.x.scan(0, 310001, 310001), 0);
        f.due("END's", held(f, 0), "30");
        Case g = new Case("scan of 0", "hand a;key 0 1 7;key 1 1 8;", 3);
        g.x.open(0);
        g.due("0", g.x.scan(0, 1, 1), 7);
        g.due("its GAP, it, the GAP behind", held(g, 0), "0 1 10");
        Case h = four("scan of the first two", 1);
        h.due("two", h.x.scan(0, 100001, 200001), 300);
        h.due("up to the third's GAP", held(h, 0), "0 1 10 11 20");
        Case i = new Case("far ones", "hand a;key 99999 1 5;key 99998 1 6;", 3);
        i.x.open(0);
        i.due("the greatest", i.x.scan(0, 999990001, 999990001), 5);
        i.due("both", i.x.scan(0, 999980001, 999990001), 11);
    }

    /** "If what it needs next isn't FREE, it WAITS ..; locks it has by then stay" */
    private static void scanStopsMidway() {
        Case c = four("scan midway", 3);
        c.x.grab(0, 20, 1);
        c.due("stopped", c.x.scan(1, 1, 999990001), -2);
        c.due("the GAP at it, not it", held(c, 1), "0 1 10");
        c.due("by a", c.x.hand(1, 1), 1);
        c.due("what it has stops others", c.x.stops(2, 10, 1, 1), 2);
        c.due("and puts", c.x.put(2, 15, 1, 1), -2);
        c.due("by b, that WAITS", c.x.hand(2, 1), 2);
        c.x.end(0);
        c.due("b went on", c.x.outcome(1), 600);
        c.due("all of it", held(c, 1), "0 1 10 11 20 21 30");
        c.due("c WAITS on", c.x.hand(2, 1), 2);
        c.due("the longest", c.x.queue(0), 2);
        Case d = four("at its first KEY", 2);
        d.x.grab(0, 10, 1);
        d.x.scan(1, 100001, 300001);
        d.due("only a GAP", held(d, 1), "0");
        Case e = four("at its last KEY", 2);
        e.x.grab(0, 30, 1);
        e.x.scan(1, 200001, 300001);
        e.due("not END's", held(e, 1), "10 11 20");
        e.x.quit(0);
        e.due("END's then", held(e, 1), "10 11 20 21 30");
    }

    private static void seekAtEveryPlace() {
        int[] where = {5, 15, 25, 35};
        for (int i = 0; i < 4; i++) {
            Case c = four("seek", 4);
            c.due("not there", c.x.seek(0, where[i], 1), -4);
            c.due("the GAP alone", held(c, 0), "" + 10 * i);
            c.due("grab", c.x.grab(1, where[i], 1), -4);
            c.due("the GAP alone", held(c, 1), "" + 10 * i);
            c.due("set", c.x.set(2, where[i], 1, 5), -4);
            c.due("the GAP alone", held(c, 2), "" + 10 * i);
            c.due("cut", c.x.cut(3, where[i], 1), -4);
            c.due("the GAP alone", held(c, 3), "" + 10 * i);
            c.due("no changes", c.x.hand(2, 4) + c.x.hand(3, 4), 0);
            c.due("KEYS", c.x.count(1) * 1000 + c.x.count(9), 3600);
        }
        Case d = new Case("no KEYS", "hand a;", 1);
        d.x.open(0);
        d.due("not there", d.x.seek(0, 1, 1), -4);
        d.due("END's", held(d, 0), "0");
    }

    /** "A KEY may be CUT by a HAND (it is there until that one ENDS)." */
    private static void cutStaysTillEnd() {
        Case c = four("CUT", 2);
        c.due("cut", c.x.cut(0, 20, 1), 200);
        c.due("KEYS", c.x.count(1), 3);
        c.due("VALUES", c.x.count(9), 600);
        c.due("its place", c.x.place(20, 1), 1);
        c.due("CUT ones", c.x.count(10), 1);
        c.due("scan leaves it out", c.x.scan(0, 200001, 200001), 0);
        c.due("but locks it", held(c, 0), "10 12 20");
        for (int i = 0; i < 2; i++) {
            c.due("seek", c.x.seek(0, 20, 1), -4);
            c.due("grab", c.x.grab(0, 20, 1), -4);
            c.due("set", c.x.set(0, 20, 1, 1), -4);
            c.due("cut", c.x.cut(0, 20, 1), -4);
        }
        c.due("one change", c.x.hand(0, 4), 1);
        c.due("nothing more is locked", held(c, 0), "10 12 20");
        c.due("scan by another one WAITS", c.x.scan(1, 200001, 200001), -2);
        c.x.quit(0);
        c.due("not CUT any more", c.x.outcome(1), 200);
        c.due("none", c.x.count(10), 0);
        c.x.end(1);
        c.x.open(0);
        c.x.cut(0, 10, 1);
        c.x.cut(0, 20, 1);
        c.x.cut(0, 30, 1);
        c.due("all CUT", c.x.count(10), 3);
        c.x.end(0);
        c.due("all VANISH", c.x.count(1), 0);
        c.due("END's place", c.x.place(0, 1), 0);
        c.due("none CUT", c.x.count(10), 0);
    }

    /** "it shared (that stays), then it is DOUBLE (nothing is put)" */
    private static void putDouble() {
        Case c = four("DOUBLE", 3);
        c.due("double", c.x.put(0, 20, 1, 5), -4);
        c.due("shared, not its GAP", held(c, 0), "11");
        c.due("VALUE stays", c.key(1, 1), 200);
        c.due("no change", c.x.hand(0, 4), 0);
        c.due("another one, too", c.x.put(1, 20, 1, 5), -4);
        c.due("whole isn't FREE", c.x.grab(1, 20, 1), -2);
        c.x.grab(2, 30, 1);
        c.due("of a whole one: WAITS", c.x.put(0, 30, 1, 5), -2);
        c.due("for c", c.x.hand(0, 1), 4);
        c.x.end(2);
        c.due("DOUBLE then", c.x.outcome(0), -4);
        c.due("told otherwise", c.x.put(0, 60, 2, 5), -4);
    }

    /** "whoever has the GAP at the place behind it has the one at it, too (the HAND itself only if it has that)" */
    private static void putDividesGaps() {
        Case c = four("divides", 2);
        c.x.seek(0, 15, 1);
        c.due("put in its own GAP", c.x.put(0, 16, 1, 1), 4);
        c.due("both", held(c, 0), "10 12 20");
        c.due("again", c.x.put(0, 14, 1, 1), 5);
        c.due("all three", held(c, 0), "10 12 20 22 30");
        c.due("behind the second one: the third's", c.x.put(0, 17, 1, 1), 6);
        c.due("all four", held(c, 0), "10 12 20 22 30 32 40");
        c.due("another one is stopped at each", c.x.stops(1, 13, 1, 2) + c.x.stops(1, 15, 1, 2) + c.x.stops(1, 18, 1, 2), 3);
        c.due("not behind them", c.x.stops(1, 25, 1, 2), 0);
        Case d = four("no GAP", 1);
        d.due("put", d.x.put(0, 15, 1, 1), 4);
        d.due("whole alone", held(d, 0), "12");
        d.due("put at END", d.x.put(0, 40, 1, 1), 5);
        d.due("whole alone", held(d, 0), "12 42");
        Case e = four("END's", 1);
        e.x.seek(0, 99, 1);
        e.due("put at END", e.x.put(0, 40, 1, 1), 4);
        e.due("END's stays, and the one at it", held(e, 0), "30 32 40");
    }

    /** "it must wait for all others that have the GAP at the place where it would be, be they WAITING" */
    private static void putWaitsForAll() {
        Case c = four("for all", 4);
        c.x.seek(0, 15, 1);
        c.x.seek(1, 15, 1);
        c.x.seek(2, 15, 1);
        c.x.grab(3, 30, 1);
        c.x.seek(1, 30, 1);
        c.due("b WAITS", c.x.hand(1, 0), 2);
        c.due("put", c.x.put(2, 16, 1, 1), -2);
        c.due("for a and b", c.x.hand(2, 1), 3);
        c.x.seek(3, 17, 1);
        c.due("for d, too", c.x.hand(2, 1), 11);
        c.x.end(0);
        c.due("not for a", c.x.hand(2, 1), 10);
        c.x.quit(1);
        c.due("not for b", c.x.hand(2, 1), 8);
        c.x.end(3);
        c.due("it comes", c.x.outcome(2), 4);
        c.due("in its GAP", held(c, 2), "10 12 20");
    }

    /** b WAITS for the GAP for a KEY that a puts itself. */
    private static void putFindsItThere() {
        Case c = four("there by then", 2);
        c.x.seek(0, 15, 1);
        c.due("b WAITS", c.x.put(1, 15, 1, 5), -2);
        c.due("a puts it", c.x.put(0, 15, 1, 6), 4);
        c.due("b WAITS for a", c.x.hand(1, 1), 1);
        c.x.end(0);
        c.due("DOUBLE", c.x.outcome(1), -4);
        c.due("shared", held(c, 1), "11");
        c.due("a's VALUE", c.key(1, 1), 6);
        Case d = four("gone by then", 2);
        d.x.seek(0, 15, 1);
        d.x.put(1, 15, 1, 5);
        d.x.put(0, 15, 1, 6);
        d.x.quit(0);
        d.due("put", d.x.outcome(1), 4);
        d.due("b's VALUE", d.key(1, 1), 5);
        Case e = four("CUT by then", 2);
        e.x.seek(0, 15, 1);
        e.x.put(1, 15, 1, 5);
        e.x.put(0, 15, 1, 6);
        e.x.cut(0, 15, 1);
        e.x.end(0);
        e.due("put", e.x.outcome(1), 4);
        e.due("b's VALUE", e.key(1, 1), 5);
    }

    /** "if it is CUT by the HAND: it isn't CUT any more, VALUE (no GAP is asked)" */
    private static void putOfOwnCut() {
        Case c = four("own CUT", 2);
        c.x.seek(1, 15, 1);
        c.x.cut(0, 20, 1);
        c.due("b's GAP is no matter", c.x.put(0, 20, 1, 7), 3);
        c.due("not CUT", c.key(1, 2), -2);
        c.due("VALUE", c.key(1, 1), 7);
        c.due("seek", c.x.seek(0, 20, 1), 7);
        c.due("LOCKS", held(c, 0), "12");
        c.due("then DOUBLE", c.x.put(0, 20, 1, 8), -4);
        c.due("CUT again", c.x.cut(0, 20, 1), 7);
        c.due("put again", c.x.put(0, 20, 1, 9), 3);
        c.due("changes", c.x.hand(0, 4), 4);
        c.x.end(0);
        c.due("it stays", c.key(1, 1), 9);
    }

    /** "(24 KEYS are asked for first)"; "NONE, nothing done: there would be more than 24" */
    private static void fullFirst() {
        Case c = full("full");
        c.x.seek(1, 5, 1);
        c.due("not -2", c.x.put(2, 6, 1, 1), -1);
        c.due("OPEN", c.x.hand(2, 0), 1);
        c.due("nothing locked", c.x.hand(2, 2), 0);
        c.due("outcome of open", c.x.outcome(2), 0);
        c.due("putNext", c.x.putNext(2, 23, 1), -1);
        c.due("DOUBLE", c.x.put(2, 10, 1, 1), -4);
        c.due("DOUBLE that WAITS", c.x.put(2, 1007, 1, 1), -2);
        c.due("own CUT", c.x.cut(0, 1003, 1), 1);
        c.due("put again", c.x.put(0, 1003, 1, 2), 24);
        c.due("23 and CUT ones are 24", c.x.cut(0, 1003, 1), 2);
        c.due("no more", c.x.put(0, 1, 1, 1), -1);
        c.x.end(0);
        c.due("23", c.x.count(1), 23);
        c.due("one more", c.x.put(1, 2000, 1, 1), 24);
        c.due("no more", c.x.put(1, 2001, 1, 1), -1);
    }

    /** 16 KEYS told (10, 20 .. 160), a is OPEN and puts eight more (1000 .. 1007); b, c are OPEN. */
    private static Case full(String name) {
        StringBuilder s = new StringBuilder("hand a;hand b;hand c;");
        for (int i = 1; i <= 16; i++) {
            s.append("key ").append(10 * i).append(" 1 1;");
        }
        Case c = new Case(name, s.toString(), 19);
        c.x.open(0);
        c.x.open(1);
        c.x.open(2);
        for (int i = 0; i < 8; i++) {
            c.due("put", c.x.put(0, 1000 + i, 1, 1), 17 + i);
        }
        return c;
    }

    /** "a put that WAITED and finds 24 KEYS: NONE" */
    private static void putFindsTwentyFour() {
        Case c = full("finds 24");
        c.x.quit(0);
        c.x.open(0);
        c.x.seek(0, 5, 1);
        c.due("b WAITS", c.x.put(1, 6, 1, 1), -2);
        c.due("c WAITS", c.x.put(2, 7, 1, 1), -2);
        for (int i = 0; i < 7; i++) {
            c.due("put", c.x.put(0, 1000 + i, 1, 1), 17 + i);
        }
        c.x.end(0);
        c.due("b is the 24th", c.x.outcome(1), 24);
        c.due("c finds 24", c.x.outcome(2), -1);
        c.due("c is OPEN", c.x.hand(2, 0), 1);
        c.due("none WAIT", c.x.queue(0), -2);
        c.due("c did nothing", c.x.hand(2, 2) + c.x.hand(2, 4), 0);
        c.due("c's seek", c.x.seek(2, 10, 1), 1);
        c.due("is the latest", c.x.outcome(2), 1);
    }

    /** "put of the float next above a KEY by its place; NONE also: no such KEY" */
    private static void putNextAtEdges() {
        Case c = new Case("putNext", "hand a;hand b;key 0 1 1;key 99999999 1 1;", 4);
        c.x.open(0);
        c.x.open(1);
        c.due("above 0", c.x.putNext(0, 0, 9999), 3);
        c.due("the least float", c.key(1, 0), 1);
        c.due("above the greatest", c.x.putNext(0, 2, 0), 4);
        c.due("the next float", c.key(3, 0), Case.bits(100000000f) + 1);
        c.due("DOUBLE", c.x.putNext(0, 0, 5), -4);
        c.due("one behind END", c.x.putNext(0, 4, 5), -1);
        c.due("cut of it", c.x.cut(0, 99999999, 1), 1);
        c.due("above a CUT one", c.x.putNext(1, 2, 5), -2);
        c.due("for a", c.x.hand(1, 1), 1);
        c.x.quit(0);
        c.due("put then", c.x.outcome(1), 3);
        c.due("its place", c.key(2, 0), Case.bits(100000000f) + 1);
        c.x.open(0);
        c.x.cut(0, 0, 1);
        c.x.seek(0, 1, 9999);
        c.due("a's GAP stops b", c.x.putNext(1, 0, 5), -2);
        c.due("a's own doesn't", c.x.putNext(0, 0, 5), 4);
        Case d = new Case("putNext", "hand a;key 1 3 1;", 2);
        d.x.open(0);
        d.due("put", d.x.putNext(0, 0, 5), 2);
        d.due("the float next above", d.key(1, 0), Case.bits(Math.nextUp(1f / 3f)));
        d.due("cut of the first", d.x.cut(0, 1, 3), 1);
        d.due("own CUT isn't asked for", d.x.putNext(0, 0, 6), -4);
    }

    /** "KEYS CUT by it VANISH, from the least on" */
    private static void vanishingInARow() {
        Case c = four("in a row", 3);
        c.x.cut(0, 10, 1);
        c.x.cut(0, 20, 1);
        c.x.seek(1, 5, 1);
        c.x.seek(2, 15, 1);
        c.x.end(0);
        c.due("one is left", c.x.count(1), 1);
        c.due("b has the GAP at it", held(c, 1), "0");
        c.due("c, too", held(c, 2), "0");
        Case d = four("all", 3);
        d.x.cut(0, 30, 1);
        d.x.cut(0, 10, 1);
        d.x.cut(0, 20, 1);
        d.x.seek(1, 5, 1);
        d.x.end(0);
        d.due("END's", held(d, 1), "0");
        d.due("none is left", d.x.count(1), 0);
        Case e = four("apart", 3);
        e.x.cut(0, 10, 1);
        e.x.cut(0, 30, 1);
        e.x.seek(1, 5, 1);
        e.x.seek(2, 25, 1);
        e.x.end(0);
        e.due("b at 20", held(e, 1), "0");
        e.due("c at END", held(e, 2), "10");
    }

    /** "whoever .. has a lock at it, of it or its GAP, has the GAP at the place behind it instead" */
    private static void vanishingHandsOnLocks() {
        Case c = four("hands on", 4);
        c.x.cut(0, 20, 1);
        c.x.seek(1, 15, 1);
        c.x.scan(2, 200001, 200001);
        c.due("c WAITS with a GAP", held(c, 2), "10");
        c.x.seek(3, 25, 1);
        c.x.end(0);
        c.due("b: the GAP of it", held(c, 1), "10");
        c.due("c: the GAP, and on", held(c, 2), "10");
        c.due("c's outcome", c.x.outcome(2), 0);
        c.due("d had it already", held(c, 3), "10");
        c.due("KEYS' LOCKS stay with theirs", c.x.count(5), 3);
        Case d = four("shared by another", 3);
        d.x.put(0, 15, 1, 1);
        d.x.end(0);
        d.x.open(0);
        d.x.seek(1, 15, 1);
        d.due("b shares it", held(d, 1), "11");
        d.due("a can't CUT it", d.x.cut(0, 15, 1), -2);
        d.x.end(1);
        d.due("then it can", d.x.outcome(0), 1);
        d.due("a's LOCK", held(d, 0), "12");
        d.x.end(0);
        d.due("a has none", d.x.hand(0, 2), 0);
        d.due("free", d.x.free(), 15);
        Case e = four("behind the last", 2);
        e.x.cut(0, 30, 1);
        e.x.seek(1, 25, 1);
        e.x.seek(1, 20, 1);
        e.x.end(0);
        e.due("END's, and its own KEY", held(e, 1), "11 20");
    }

    /** "all that it did since it is OPEN is undone, the latest first" */
    private static void quitUndoesTheLatestFirst() {
        Case c = four("undo", 1);
        String before = four("undo", 1).all();
        c.x.set(0, 10, 1, 1);
        c.x.set(0, 10, 1, 2);
        c.x.set(0, 10, 1, 3);
        c.x.cut(0, 10, 1);
        c.x.put(0, 10, 1, 4);
        c.x.set(0, 10, 1, 5);
        c.x.cut(0, 10, 1);
        c.x.put(0, 15, 1, 6);
        c.x.cut(0, 15, 1);
        c.x.put(0, 15, 1, 7);
        c.x.set(0, 15, 1, 8);
        c.x.put(0, 16, 1, 9);
        c.x.cut(0, 16, 1);
        c.due("changes", c.x.hand(0, 4), 13);
        c.due("quit", c.x.quit(0), 0);
        c.due("open", c.x.open(0), 0);
        c.due("all as it was", c.all(), before);
        c.x.set(0, 20, 1, 9);
        c.x.end(0);
        c.x.open(0);
        c.x.set(0, 20, 1, 10);
        c.x.quit(0);
        c.due("only since it is OPEN", c.key(1, 1), 9);
        changesOfTwo();
    }

    /** What one HAND changed goes with its end, in whatever order HANDS changed and ended. */
    private static void changesOfTwo() {
        Case c = four("changes of two", 2);
        c.x.set(0, 10, 1, 1);
        c.x.set(1, 20, 1, 2);
        c.x.set(0, 10, 1, 3);
        c.x.set(1, 20, 1, 4);
        c.due("two each", c.x.hand(0, 4) * 10 + c.x.hand(1, 4), 22);
        c.x.end(1);
        c.due("a's stay", c.x.hand(0, 4), 2);
        c.x.end(0);
        c.x.open(0);
        c.x.open(1);
        c.due("none of before", c.x.hand(0, 4) + c.x.hand(1, 4), 0);
        c.x.quit(0);
        c.x.quit(1);
        c.due("nothing is undone", c.x.count(9), 3 + 4 + 300);
    }

    /** "quit (of one that WAITS, too) .. its LOCKS go, it WAITS no more" */
    private static void quitOfOneThatWaits() {
        Case c = four("quit of one that WAITS", 4);
        c.x.set(0, 10, 1, 7);
        c.x.set(1, 20, 1, 8);
        c.x.put(1, 25, 1, 9);
        c.due("b WAITS", c.x.seek(1, 10, 1), -2);
        c.due("c WAITS for b", c.x.seek(2, 20, 1), -2);
        c.due("quit", c.x.quit(1), 0);
        c.due("undone", c.x.count(1) * 1000 + c.key(1, 1), 3200);
        c.due("shut", c.x.hand(1, 0), 0);
        c.due("none in line", c.x.queue(0), -2);
        c.due("c was let on", c.x.outcome(2), 200);
        c.due("WAITS for none", c.x.hand(1, 1), 0);
        c.due("outcome", c.x.outcome(1), 0);
        c.x.end(0);
        c.due("it isn't let on", c.x.outcome(1), 0);
        c.due("open again", c.x.open(1), 0);
    }

    private static void endOfNothing() {
        Case c = four("nothing", 1);
        c.due("end", c.x.end(0), 0);
        c.due("open", c.x.open(0), 0);
        c.due("quit", c.x.quit(0), 0);
        c.due("nothing changed", c.x.count(1) * 1000 + c.x.count(9), 3600);
        Case d = new Case("no KEYS", "hand a;", 1);
        d.x.open(0);
        d.due("put", d.x.put(0, 1, 1, 1), 1);
        d.due("cut", d.x.cut(0, 1, 1), 1);
        d.due("end", d.x.end(0), 0);
        d.due("none", d.x.count(1), 0);
    }

    /** "the same need as before ..: it WAITS on in its place (for whoever stops it by then; no ring is looked for)" */
    private static void sameNeedNoRing() {
        Case c = four("no ring is looked for", 4);
        c.x.seek(0, 18, 1);
        c.x.put(0, 17, 1, 1);
        c.due("d: the GAP at 17", c.x.seek(3, 15, 1), -4);
        c.x.grab(2, 30, 1);
        c.due("c WAITS for a's GAP", c.x.put(2, 18, 1, 1), -2);
        c.due("d WAITS for c", c.x.seek(3, 30, 1), -2);
        c.x.quit(0);
        c.due("c WAITS for d, that has the GAP now", c.x.hand(2, 1), 8);
        c.due("d WAITS for c", c.x.hand(3, 1), 4);
        c.due("none DIED", c.x.count(8), 0);
        c.due("in their places", c.x.queue(0) * 10 + c.x.queue(1), 23);
        c.due("a ring of others isn't b's", c.x.ring(1, 2), 0);
        c.due("b in its turn", c.x.seek(1, 30, 1), -2);
        c.x.quit(2);
        c.due("d went on", c.x.outcome(3), 300);
        c.due("b went on", c.x.outcome(1), 300);
    }

    /** "(those that do so by then, whoever they come to be": c, not yet let on, WAITS for nobody when b asks. */
    private static void needIsAskedAnew() {
        for (int kind = 0; kind < 3; kind++) {
            Case c = four("asked anew " + kind, 3);
            c.x.grab(0, 10, 1);
            c.x.grab(2, 20, 1);
            c.due("b WAITS for a", c.x.scan(1, 100001, 200001), -2);
            int got = kind == 0 ? c.x.seek(2, 10, 1) : kind == 1 ? c.x.scan(2, 100001, 100001) : c.x.put(2, 10, 1, 1);
            c.due("c WAITS for a", got, -2);
            c.x.end(0);
            c.due("none DIED", c.x.count(8), 0);
            c.due("c went on", c.x.outcome(2), kind == 2 ? -4 : 100);
            c.due("b WAITS for c", c.x.hand(1, 1), 4);
            c.due("b is the last", c.x.queue(0), 1);
        }
        Case d = four("whole asks for those that share", 3);
        d.x.grab(0, 10, 1);
        d.x.grab(2, 20, 1);
        d.due("b WAITS for a", d.x.scan(1, 100001, 200001), -2);
        d.due("c WAITS for a", d.x.grab(2, 10, 1), -2);
        d.x.end(0);
        d.due("c would wait for b by then, so b DIES", d.x.outcome(1), -3);
        d.due("c went on", d.x.outcome(2), 100);
    }

    /** "or WAITS then with another need, being the last that does" */
    private static void lastWithAnotherNeed() {
        Case c = four("the last", 4);
        c.x.grab(0, 10, 1);
        c.x.grab(3, 20, 1);
        c.due("b ahead", c.x.scan(1, 100001, 200001), -2);
        c.due("c behind", c.x.seek(2, 20, 1), -2);
        c.x.end(0);
        c.due("c is the first now", c.x.queue(0) * 10 + c.x.queue(1), 21);
        c.due("no more", c.x.queue(2), -2);
        c.x.end(3);
        c.due("both went on", c.x.count(7), 0);
        Case d = four("by GAP, then by KEY", 4);
        d.x.seek(0, 15, 1);
        d.x.grab(3, 30, 1);
        d.due("b ahead", d.x.put(1, 15, 1, 5), -2);
        d.due("c behind", d.x.seek(2, 30, 1), -2);
        d.x.end(0);
        d.due("b is through", d.x.outcome(1), 4);
        d.due("c alone", d.x.queue(0) * 10 + d.x.queue(1), 18);
    }

    /** "Behind each end, quit, death" */
    private static void deathWakes() {
        Case c = four("death", 4);
        c.x.set(0, 10, 1, 1);
        c.x.set(1, 20, 1, 2);
        c.x.put(1, 25, 1, 3);
        c.due("c WAITS for b", c.x.scan(2, 210001, 290001), -2);
        c.due("a WAITS for b", c.x.seek(0, 20, 1), -2);
        c.due("b DIES", c.x.seek(1, 10, 1), -3);
        c.due("a went on", c.x.outcome(0), 200);
        c.due("c went on", c.x.outcome(2), 0);
        c.due("b's KEY went", c.x.count(1), 3);
        c.due("its VALUE is as it was", c.key(1, 1), 200);
        c.due("b has no LOCKS", c.x.hand(1, 2), 0);
        c.due("b's changes", c.x.hand(1, 4), 0);
        c.due("b DIED once", c.x.hand(1, 3), 1);
        c.due("none else did", c.x.hand(0, 3) + c.x.hand(2, 3) + c.x.hand(3, 3), 0);
        c.due("c: the GAP behind", held(c, 2), "20");
        c.due("b opens", c.x.open(1), 0);
        c.x.grab(2, 30, 1);
        c.x.seek(1, 22, 1);
        c.due("c WAITS for a", c.x.seek(2, 10, 1), -2);
        c.due("a DIES", c.x.grab(0, 30, 1), -3);
        c.due("two", c.x.count(8), 2);
        c.due("a once", c.x.hand(0, 3), 1);
        Case d = four("twice", 2);
        for (int i = 1; i <= 3; i++) {
            d.x.seek(0, 10, 1);
            d.x.seek(1, 10, 1);
            d.x.grab(0, 10, 1);
            d.due("b DIES", d.x.grab(1, 10, 1), -3);
            d.due("how often", d.x.hand(1, 3), i);
            d.due("of all", d.x.count(8), i);
            d.x.end(0);
            d.x.open(0);
            d.x.open(1);
        }
    }

    /** "what was answered NONE isn't looked at"; "NONE: nothing was done"; "-5: no such HAND" */
    private static void outcomes() {
        Case c = four("outcome", 0);
        for (int i = 0; i < 4; i++) {
            c.due("nothing was done", c.x.outcome(i), -1);
        }
        c.due("refused", c.x.end(0), -1);
        c.due("nothing was done", c.x.outcome(0), -1);
        c.x.open(0);
        c.due("open", c.x.outcome(0), 0);
        c.x.seek(0, 15, 1);
        c.due("-4", c.x.outcome(0), -4);
        c.x.open(0);
        c.due("open refused", c.x.outcome(0), -4);
        c.x.put(0, 15, 1, 1);
        c.due("put", c.x.outcome(0), 4);
        c.x.scan(0, 1, 999990001);
        c.due("scan", c.x.outcome(0), 601);
        c.x.cut(0, 20, 1);
        c.due("cut", c.x.outcome(0), 200);
        c.x.set(0, 30, 1, 0);
        c.due("set", c.x.outcome(0), 300);
        c.x.grab(0, 30, 1);
        c.due("grab of VALUE 0", c.x.outcome(0), 0);
        c.x.end(0);
        c.due("end", c.x.outcome(0), 0);
        c.x.seek(0, 10, 1);
        c.due("of a shut one stays", c.x.outcome(0), 0);
        c.x.open(1);
        c.x.open(0);
        c.x.grab(0, 10, 1);
        c.x.grab(1, 10, 1);
        c.due("WAITS yet", c.x.outcome(1), -2);
        c.x.quit(1);
        c.due("quit", c.x.outcome(1), 0);
    }

    /** "HANDS (bits), others than a HAND, that WAIT now and wouldn't, if it quit now (all is as it was behind that)" */
    private static void wakesAtEdges() {
        Case c = four("wakes", 4);
        c.x.grab(3, 10, 1);
        c.due("none WAITS", c.x.wakes(3), 0);
        c.x.seek(0, 10, 1);
        c.x.seek(1, 10, 1);
        c.x.grab(2, 10, 1);
        String before = c.all();
        c.due("a and b, c not", c.x.wakes(3), 3);
        c.due("a's quit wakes none", c.x.wakes(0), 0);
        c.due("nor itself", c.x.wakes(2), 0);
        c.due("loses", c.x.loses(3), 0);
        c.due("all is as it was", c.all(), before);
        Case d = four("by what is undone", 4);
        d.x.put(0, 15, 1, 1);
        d.x.put(1, 15, 1, 2);
        d.x.seek(2, 15, 1);
        d.due("b, that puts it; c WAITS for b then", d.x.wakes(0), 2);
        d.due("a's goes, b's comes", d.x.loses(0), 1);
        Case e = four("reads", 4);
        e.x.set(0, 10, 1, 1);
        e.x.scan(1, 1, 999990001);
        e.x.seek(2, 10, 1);
        e.x.grab(3, 20, 1);
        e.x.tried(3, 0);
        e.due("b comes to WAIT for d", e.x.wakes(0), 4);
        e.x.tried(1, 0);
        e.due("and again", e.x.wakes(0), 4);
        Case g = new Case("five HANDS", "hand a;hand b;hand c;hand d;hand e;key 1 1 1;", 6);
        for (int i = 0; i < 5; i++) {
            g.x.open(i);
            g.x.grab(i, 1, 1);
        }
        g.due("the first of four", g.x.wakes(0), 2);
        g.due("the last wakes none", g.x.wakes(4), 0);
        Case f = new Case("one HAND", "hand a;", 1);
        f.x.open(0);
        f.due("none", f.x.wakes(0), 0);
        f.due("loses", f.x.loses(0), 0);
    }

    /** "How much VALUES of all KEYS in sum would be more .. (may be below 0); Integer.MIN_VALUE: no such HAND, it is shut" */
    private static void losesAtEdges() {
        Case c = four("loses", 2);
        c.x.set(0, 10, 1, 0);
        c.due("more", c.x.loses(0), 100);
        c.x.put(0, 11, 1, 9999);
        c.due("less", c.x.loses(0), 100 - 9999);
        c.x.cut(0, 20, 1);
        c.due("CUT ones count", c.x.loses(0), 100 - 9999);
        c.x.put(0, 20, 1, 5);
        c.due("put again", c.x.loses(0), 100 - 9999 + 195);
        c.due("of another one", c.x.loses(1), 0);
        c.x.seek(1, 10, 1);
        c.due("of one that WAITS", c.x.loses(1), 0);
        c.x.end(0);
        c.due("shut", c.x.loses(0), LEAST);
        c.due("nothing left to lose", c.x.loses(1), 0);
    }
}
