/** Terms 3 and 4, promises 28 to 32, 40 to 42 and 46 to 49, at their edges: no STEPS and all of them, none kept and all. */
final class RunEdgesTest {
    private static final int LEAST = Integer.MIN_VALUE;
    private static final int MOST = Integer.MAX_VALUE;
    private static final String TWO = "hand a;hand b;key 1 1 10;key 2 1 20;";
    private static final String CROSS = TWO
        + "open a;open b;grab a 1 1;grab b 2 1;grab a 2 1;grab b 1 1;end a;end b;";
    /** c and d come to WAIT for one another, and none DIES. */
    private static final String STUCK = "hand a;hand b;hand c;hand d;key 10 1 1;key 20 1 2;key 30 1 3;open a;open c;open d;"
        + "seek a 18 1;put a 17 1 4;seek d 15 1;grab c 30 1;put c 18 1 5;seek d 30 1;quit a;";

    public static void main(String[] args) {
        runOfNoSuchNumber();
        runOfAll();
        firstStepKept();
        keptByNumbers();
        keptAreNotCounted();
        neverDone();
        answerAtEdges();
        sameOfHandsLeftOpen();
        sameFromTheIndexTold();
        sameOfMany();
        sameOfStuck();
        sameOrderAtEdges();
        triedWithoutGaps();
        triedWithoutOne();
        triedWithoutReadLocks();
        triedImpatient();
        triedAtEdges();
        trialsApart();
        culpritAtEdges();
        swappedAtEdges();
        chanceOfTen();
        chanceAtEdges();
        fateAtEdges();
        fullText();
        takeAndBackAtEdges();
        snapshotKeepsAll();
        snapshotKeepsNeeds();
        snapshotKeepsTape();
        countAtEdges();
        Case.finish();
    }

    /** "RUN of so many STEPS (0 .. 24 ..) ..; NONE: no such number" */
    private static void runOfNoSuchNumber() {
        Case c = new Case("run", CROSS, 12);
        c.x.run(3);
        String before = c.all();
        for (int far : new int[] {-1, 25, 26, LEAST, MOST}) {
            c.due("run(" + far + ")", c.x.run(far), -1);
        }
        c.due("all stays", c.all(), before);
        c.due("none", c.x.run(0), 5);
        c.due("all stays", c.all(), before);
        c.due("more than there are", c.x.run(24), 0);
        before = c.all();
        c.due("no more", c.x.run(24), 0);
        c.due("no more", c.x.run(0), 0);
        c.due("all stays", c.all(), before);
    }

    private static void runOfAll() {
        StringBuilder s = new StringBuilder("hand a;key 1 1 5;open a;");
        for (int i = 1; i <= 22; i++) {
            s.append("set a 1 1 ").append(i).append(';');
        }
        s.append("end a;");
        Case c = new Case("24 STEPS", s.toString(), 26);
        c.due("all of them", c.x.run(24), 0);
        c.due("the last", c.x.answer(23), 0);
        c.due("the one ahead", c.x.answer(22), 21);
        c.due("no 25th", c.x.answer(24), -6);
        Case d = new Case("24 STEPS", s.toString(), 26);
        for (int i = 1; i <= 24; i++) {
            d.due("one by one", d.x.run(1), 24 - i);
            d.due("done", d.x.count(3), i);
        }
        d.due("as at once", d.all(), c.all());
        Case e = new Case("one", "hand a;open a;", 2);
        e.due("one", e.x.run(1), 0);
        e.due("OPEN", e.x.hand(0, 0), 1);
    }

    /** "a STEP of a HAND that WAITS is kept for later": the first one, too */
    private static void firstStepKept() {
        Case c = new Case("first STEP", TWO + "seek b 2 1;open b;end b;", 7);
        c.x.open(0);
        c.x.open(1);
        c.x.grab(0, 1, 1);
        c.due("WAITS by call", c.x.grab(1, 1, 1), -2);
        c.due("kept", c.x.run(1), 3);
        c.due("count", c.x.count(4) * 10 + c.x.count(3), 10);
        c.due("answer", c.x.answer(0), -5);
        c.due("kept, too", c.x.run(2), 3);
        c.due("count", c.x.count(4) * 10 + c.x.count(3), 30);
        c.x.end(0);
        c.due("not by the end alone", c.x.count(4), 3);
        c.due("by RUN of none", c.x.run(0), 0);
        c.due("seek", c.x.answer(0), 20);
        c.due("open is passed", c.x.answer(1), -1);
        c.due("end", c.x.answer(2), 0);
        c.due("none kept", c.x.count(4), 0);
    }

    /** "each time the first one by numbers": c's STEP 7 comes to its turn behind b's 8 and 9. */
    private static void keptByNumbers() {
        Case c = new Case("by numbers", "hand a;hand b;hand c;key 1 1 10;key 2 1 20;open a;open b;open c;grab a 1 1;grab b 2 1;"
            + "grab b 1 1;seek c 2 1;set c 1 1 5;set b 1 1 9;end b;end a;", 16);
        c.due("ten", c.x.run(10), 4);
        c.due("three are kept", c.x.count(4), 3);
        c.due("the last", c.x.run(1), 0);
        c.due("set b", c.x.answer(8), 10);
        c.due("end b", c.x.answer(9), 0);
        c.due("set c behind them", c.x.answer(7), 9);
        c.due("VALUE", c.key(0, 1), 5);
        Case d = new Case("ahead of the next one", "hand a;hand b;key 1 1 10;open a;open b;grab a 1 1;grab b 1 1;set b 1 1 7;end a;"
            + "open a;grab a 1 1;", 11);
        d.due("all", d.x.run(24), 0);
        d.due("b's kept one is ahead of a's open", d.x.answer(4), 10);
        d.due("a WAITS then", d.x.answer(7), -2);
    }

    /** "STEPS kept for later aren't counted" */
    private static void keptAreNotCounted() {
        Case c = new Case("not counted", TWO + "open a;open b;grab a 1 1;grab b 1 1;seek b 2 1;seek b 2 1;end a;grab a 1 1;open a;", 13);
        c.due("six: two of them kept", c.x.run(6), 5);
        c.due("one: end a, and the two", c.x.run(1), 2);
        c.due("done", c.x.count(3), 7);
        c.due("kept", c.x.count(4), 0);
        c.due("both", c.x.answer(4) * 100 + c.x.answer(5), 2020);
        c.due("passed", c.x.run(1) * 10 + c.x.answer(7), 9);
        c.due("one more", c.x.run(1), 0);
    }

    private static void neverDone() {
        Case c = new Case("never done", TWO + "open a;open b;grab a 1 1;grab b 1 1;seek b 2 1;end b;", 10);
        c.due("two are kept", c.x.run(24), 2);
        c.due("and stay", c.x.run(24), 2);
        c.due("kept", c.x.count(4), 2);
        c.due("done", c.x.count(3), 4);
        c.due("answers", c.x.answer(4) + c.x.answer(5), -10);
        c.due("-2 is done", c.x.answer(3), -2);
        c.x.quit(1);
        c.due("by a quit of b", c.x.run(0), 0);
        c.due("passed", c.x.answer(4) + c.x.answer(5), -2);
    }

    /** "-5: it isn't done yet, or kept); -6: no such STEP" */
    private static void answerAtEdges() {
        Case c = new Case("answer", CROSS, 12);
        for (int far : new int[] {-1, 8, 24, LEAST, MOST}) {
            c.due("answer(" + far + ")", c.x.answer(far), -6);
        }
        for (int step = 0; step < 8; step++) {
            c.due("not done", c.x.answer(step), -5);
        }
        c.x.run(24);
        int[] due = {0, 0, 10, 20, -2, -3, 0, -1};
        for (int step = 0; step < 8; step++) {
            c.due("answer " + step, c.x.answer(step), due[step]);
        }
        c.due("put at 24 is passed", passedPut(), -1);
    }

    private static int passedPut() {
        StringBuilder s = new StringBuilder("hand a;hand b;");
        for (int i = 1; i <= 16; i++) {
            s.append("key ").append(i).append(" 1 1;");
        }
        s.append("put a 99 1 1;");
        Case c = new Case("full", s.toString(), 19);
        c.x.open(0);
        for (int i = 0; i < 8; i++) {
            c.x.put(0, 20 + i, 1, 1);
        }
        c.due("run", c.x.run(1), 0);
        c.due("done or passed", c.x.count(3), 1);
        return c.x.answer(0);
    }

    /** "a HAND still OPEN behind its last STEP ENDS"; "as long as some HAND is OPEN, the first one ENDS" */
    private static void sameOfHandsLeftOpen() {
        Case c = new Case("left OPEN", TWO + "open a;cut a 1 1;open b;put b 1 1 7;", 8);
        c.due("a's KEY VANISHES, b's comes", c.x.same(), 1);
        c.due("a, then b", c.x.sameOrder(0) * 10 + c.x.sameOrder(1), 1);
        Case d = new Case("left OPEN", TWO + "open b;cut b 1 1;open a;put a 1 1 7;", 8);
        d.due("b's KEY VANISHES, a's comes", d.x.same(), 1);
        d.due("b, then a", d.x.sameOrder(0) * 10 + d.x.sameOrder(1), 10);
        Case e = new Case("kept go on", TWO + "open a;open b;set a 1 1 5;set b 1 1 6;set b 2 1 7;end b;open b;set b 2 1 8;", 12);
        e.due("a, then b", e.x.same(), 1);
        e.due("a, then b", e.x.sameOrder(0) * 10 + e.x.sameOrder(1), 1);
        Case f = new Case("quit", TWO + "open a;set a 1 1 5;quit a;open b;set b 2 1 5;quit b;", 10);
        f.due("nothing comes of it", f.x.same(), 2);
    }

    /** "from the INDEX told": each order, and the RUN, whatever is there now */
    private static void sameFromTheIndexTold() {
        Case c = new Case("first put wins", "hand a;hand b;open a;put a 5 1 1;end a;open b;put b 5 1 2;end b;", 8);
        c.due("a's", c.x.same(), 1);
        c.due("a, then b", c.x.sameOrder(0) * 10 + c.x.sameOrder(1), 1);
        c.x.open(1);
        c.x.put(1, 5, 1, 9);
        c.x.end(1);
        c.due("whatever is there", c.x.same(), 1);
        c.due("and stays", c.key(0, 1), 9);
        Case d = new Case("asked late", "hand a;hand b;open a;put a 5 1 1;end a;open b;put b 5 1 2;end b;", 8);
        d.x.open(1);
        d.x.put(1, 5, 1, 2);
        d.x.run(5);
        String before = d.all();
        d.due("same", d.x.same(), 1);
        d.due("all stays", d.all(), before);
        d.due("KEYS, not only VALUES", new Case("KEYS", "hand a;hand b;key 1 1 4;open a;cut a 1 1;put a 2 1 4;end a;open b;"
            + "set b 1 1 4;end b;", 10).x.same(), 2);
        d.due("all put and undone", new Case("undone", "hand a;hand b;open a;put a 5 1 1;quit a;open b;put b 6 1 1;quit b;", 8).x.same(), 2);
        d.due("fewer KEYS", new Case("KEYS", "hand a;hand b;open a;put a 2 1 4;end a;open b;cut b 2 1;end b;", 8).x.same(), 1);
    }

    /** "of all orders of all HANDS (those without STEPS, too)" */
    private static void sameOfMany() {
        int[] due = {1, 1, 2, 6, 24, 120};
        String hands = "";
        for (int i = 0; i <= 5; i++) {
            Case c = new Case(i + " HANDS", hands, i);
            c.due("same", c.x.same(), due[i]);
            for (int k = 0; k < i; k++) {
                c.due("the first order", c.x.sameOrder(k), k);
            }
            c.due("no so many", c.x.sameOrder(i), -2);
            hands += "hand " + (char) ('a' + i) + ";";
        }
        Case d = new Case("the last order", "hand a;hand b;hand c;hand d;hand e;key 1 1 0;open e;set e 1 1 1;end e;open d;put d 2 1 1;"
            + "end d;open c;put c 2 1 2;end c;open b;put b 3 1 1;end b;open a;put a 3 1 2;end a;", 21);
        d.due("d ahead of c, b ahead of a", d.x.same(), 30);
        int[] first = {1, 0, 3, 2, 4};
        for (int k = 0; k < 5; k++) {
            d.due("the first of them", d.x.sameOrder(k), first[k]);
        }
        Case e = new Case("one order alone", "hand a;hand b;hand c;hand d;hand e;key 1 1 0;open e;set e 1 1 1;end e;open d;set d 1 1 2;"
            + "put d 2 1 1;end d;open c;put c 2 1 2;put c 3 1 1;end c;open b;put b 3 1 2;put b 4 1 1;end b;open a;put a 4 1 2;end a;",
            24);
        e.due("e, d, c, b, a", e.x.same(), 1);
        for (int k = 0; k < 5; k++) {
            e.due("the last of all orders", e.x.sameOrder(k), 4 - k);
        }
    }

    private static void sameOfStuck() {
        Case c = new Case("stuck", STUCK, 17);
        c.due("no order", c.x.same(), 0);
        c.due("no order", c.x.sameOrder(0), -2);
        c.due("below 0", c.x.sameOrder(-1), -1);
        c.due("both WAIT", c.x.tried(0, 0), 2);
        c.due("none DIES", c.x.culprit(), -2);
        c.due("run", c.x.run(24), 0);
        c.due("c for d", c.x.hand(2, 1), 8);
        c.due("d for c", c.x.hand(3, 1), 4);
        c.due("none OPEN", c.x.count(6), 0);
    }

    /** "-2: there are no so many, no such order; NONE: k is below 0" */
    private static void sameOrderAtEdges() {
        Case c = new Case("sameOrder", CROSS, 12);
        c.due("the first", c.x.sameOrder(0), 0);
        c.due("the last", c.x.sameOrder(1), 1);
        c.due("no so many", c.x.sameOrder(2), -2);
        c.due("no so many", c.x.sameOrder(5), -2);
        c.due("no so many", c.x.sameOrder(MOST), -2);
        c.due("below", c.x.sameOrder(-1), -1);
        c.due("below", c.x.sameOrder(LEAST), -1);
    }

    /** "1 if there are no GAPS (nothing waits for them)" */
    private static void triedWithoutGaps() {
        Case c = new Case("no GAPS", "hand a;hand b;key 10 1 1;key 20 1 2;open a;open b;seek a 15 1;put b 15 1 5;end a;end b;", 10);
        c.due("as they are", c.x.tried(0, 0), 1);
        c.due("no GAPS", c.x.tried(1, 0), 0);
        c.due("reads take none", c.x.tried(3, 0), 0);
        c.due("DIES", c.x.tried(4, 0), 1);
        Case d = new Case("KEYS' LOCKS stay", "hand a;hand b;key 10 1 1;key 20 1 2;open a;open b;scan a 10 1 20 1;put b 15 1 5;"
            + "grab b 20 1;put a 15 1 6;", 10);
        d.due("b's put WAITS", d.x.tried(0, 0), 1);
        d.due("b's grab and a's put", d.x.tried(1, 0), 2);
    }

    /** "2 without those of HAND i" */
    private static void triedWithoutOne() {
        Case c = new Case("without one", "hand a;hand b;hand c;key 10 1 1;key 20 1 2;open a;open b;open c;grab a 10 1;grab b 10 1;"
            + "grab c 20 1;grab c 10 1;", 12);
        c.due("as they are", c.x.tried(0, 0), 2);
        c.due("without a", c.x.tried(2, 0), 1);
        c.due("without b", c.x.tried(2, 1), 1);
        c.due("without c", c.x.tried(2, 2), 1);
        Case d = new Case("without one", "hand a;hand b;hand c;key 10 1 1;open a;open b;open c;grab a 10 1;grab b 10 1;", 9);
        d.due("without a", d.x.tried(2, 0), 0);
        d.due("without b", d.x.tried(2, 1), 0);
        d.due("without c", d.x.tried(2, 2), 1);
    }

    /** "3 if seek and scan need and take no locks (they never wait)" */
    private static void triedWithoutReadLocks() {
        String head = "hand a;hand b;key 10 1 1;key 20 1 2;open a;open b;";
        tried3("seek takes none", head + "seek a 10 1;grab b 10 1;", 8, 1, 0);
        tried3("scan takes none", head + "scan a 10 1 10 1;grab b 10 1;", 8, 1, 0);
        tried3("scan takes no GAPS", head + "scan a 10 1 10 1;put b 15 1 1;", 8, 1, 0);
        tried3("seek takes no GAP", head + "seek a 15 1;put b 15 1 1;", 8, 1, 0);
        tried3("seek needs none", head + "grab a 10 1;seek b 10 1;", 8, 1, 0);
        tried3("scan needs none", head + "grab a 10 1;scan b 10 1 20 1;", 8, 1, 0);
        tried3("grab needs one", head + "grab a 10 1;seek b 10 1;grab b 10 1;", 9, 1, 1);
        tried3("grab takes a GAP", head + "grab a 15 1;put b 15 1 1;", 8, 1, 1);
        tried3("set takes one", head + "set a 10 1 5;set b 10 1 6;", 8, 1, 1);
        tried3("cut takes one", head + "cut a 10 1;cut b 10 1;", 8, 1, 1);
        tried3("put takes it shared", head + "put a 10 1 5;grab b 10 1;", 8, 1, 1);
        tried3("put takes it whole", head + "put a 15 1 5;grab b 15 1;", 8, 1, 1);
    }

    private static void tried3(String name, String text, int lines, int asTheyAre, int loose) {
        Case c = new Case(name, text, lines);
        c.due("as they are", c.x.tried(0, 0), asTheyAre);
        c.due("without LOCKS of reads", c.x.tried(3, 0), loose);
    }

    /** "4 if each HAND that would WAIT DIES" */
    private static void triedImpatient() {
        Case c = new Case("impatient", TWO + "open a;open b;set b 2 1 5;grab a 1 1;grab b 1 1;grab a 2 1;open b;grab b 1 1;grab b 2 1;", 13);
        c.due("b WAITS, a DIES", c.x.tried(0, 0), 2);
        c.due("b DIES, a has both, b DIES again, what follows is passed", c.x.tried(4, 0), 2);
        Case d = new Case("impatient", TWO + "open a;open b;seek a 1 1;seek b 1 1;grab a 1 1;grab b 1 1;", 10);
        d.due("a WAITS, b DIES", d.x.tried(0, 0), 2);
        d.due("a DIES", d.x.tried(4, 0), 1);
    }

    /** "NONE: no such ones (i 0 of all but 2)" */
    private static void triedAtEdges() {
        Case c = new Case("tried", CROSS, 12);
        for (int far : new int[] {-1, 5, 6, LEAST, MOST}) {
            c.due("what " + far, c.x.tried(far, 0), -1);
        }
        for (int what = 0; what <= 4; what++) {
            for (int far : new int[] {-1, 2, 5, LEAST, MOST}) {
                c.due("tried(" + what + ", " + far + ")", c.x.tried(what, far), -1);
            }
            c.due("tried(" + what + ", 1)", c.x.tried(what, 1), what == 2 ? 0 : -1);
        }
    }

    /** Each trial begins anew, whatever was tried ahead of it. */
    private static void trialsApart() {
        String text = "hand a;hand b;hand c;key 10 1 1;key 20 1 2;open a;open b;seek a 15 1;seek b 15 1;put a 15 1 5;put b 16 1 5;"
            + "open c;scan c 10 1 20 1;set a 10 1 7;end a;end b;end c;";
        String alone = trials(new Case("alone", text, 17));
        for (int what = 0; what <= 4; what++) {
            for (int trial = 0; trial < 7; trial++) {
                Case c = new Case("apart", text, 17);
                c.x.tried(what, 0);
                c.due("trial " + trial + " behind tried " + what, trial(c, trial), alone.split(" ")[trial]);
            }
        }
        Case d = new Case("behind swapped", text, 17);
        for (int step = 0; step < 11; step++) {
            d.x.swapped(step);
            d.due("tried behind swapped(" + step + ")", trial(d, 6), alone.split(" ")[6]);
        }
        Case e = new Case("behind itself", text, 17);
        e.due("once", trials(e), alone);
        e.due("twice", trials(e), alone);
    }

    private static String trials(Case c) {
        StringBuilder s = new StringBuilder();
        for (int trial = 0; trial < 7; trial++) {
            s.append(trial == 0 ? "" : " ").append(trial(c, trial));
        }
        return s.toString();
    }

    private static String trial(Case c, int trial) {
        switch (trial) {
            case 0:
                return "" + c.x.same();
            case 1:
                return "" + c.x.chance(7);
            case 2:
                return "" + c.x.culprit();
            case 3:
                return "" + c.x.swapped(3) + c.x.swapped(4);
            case 4:
                return "" + c.x.fate(3, 1);
            case 5:
                return "" + c.x.sameOrder(0) + c.x.sameOrder(1) + c.x.sameOrder(2);
            default:
                return "" + c.x.tried(0, 0) + c.x.tried(1, 0) + c.x.tried(2, 0) + c.x.tried(2, 2) + c.x.tried(3, 0) + c.x.tried(4, 0);
        }
    }

    /** "-2: none DIES with all; -3: there is no such STEP" */
    private static void culpritAtEdges() {
        Case c = new Case("no STEPS", TWO, 4);
        c.due("none DIES", c.x.culprit(), -2);
        Case d = new Case("WAITS alone", TWO + "open a;open b;grab a 1 1;grab b 1 1;", 8);
        d.due("none DIES", d.x.culprit(), -2);
        Case e = new Case("the first", TWO + "open a;open b;seek a 1 1;seek b 1 1;grab a 1 1;grab b 1 1;", 10);
        e.due("the first", e.x.culprit(), 0);
        Case f = new Case("the last", TWO + "open a;open a;open b;open b;grab a 1 1;grab a 1 1;grab b 2 1;grab b 2 1;grab a 2 1;"
            + "grab a 2 1;grab b 1 1;", 15);
        f.due("the last", f.x.culprit(), 10);
        Case g = new Case("twice", TWO + "open a;open a;open b;open b;grab a 1 1;grab a 1 1;grab b 2 1;grab b 2 1;grab a 2 1;"
            + "grab a 2 1;grab b 1 1;grab b 1 1;", 16);
        g.due("the last one is told twice", g.x.culprit(), -3);
        String before = e.all();
        e.due("again", e.x.culprit(), 0);
        e.due("all stays", e.all(), before);
    }

    /** "NONE: no such two" */
    private static void swappedAtEdges() {
        Case c = new Case("swapped", CROSS, 12);
        for (int far : new int[] {-1, 7, 8, 23, 24, LEAST, MOST}) {
            c.due("swapped(" + far + ")", c.x.swapped(far), -1);
        }
        c.due("the first two", c.x.swapped(0), 2);
        c.due("the last two", c.x.swapped(6), 2);
        Case d = new Case("one STEP", "hand a;open a;", 2);
        d.due("no two", d.x.swapped(0), -1);
        Case e = new Case("two STEPS", TWO + "open a;open b;", 6);
        e.due("two", e.x.swapped(0), 0);
        e.due("no two", e.x.swapped(1), -1);
        Case f = new Case("the very last", TWO + "open a;open b;grab a 1 1;grab b 1 1;", 8);
        f.due("a WAITS instead", f.x.swapped(2), 1);
        f.due("b isn't OPEN for it", new Case("open late", TWO + "open a;grab a 1 1;open b;grab b 1 1;", 8).x.swapped(2), 0);
        f.due("no two", f.x.swapped(3), -1);
    }

    /** HANDS' STEPS as {kind, KEY}; kind 0 open, 1 seek, 2 grab, 3 end. */
    private static final int[][][] RACE = {
        {{0, 0}, {1, 1}, {2, 1}, {2, 2}, {3, 0}}, {{0, 0}, {2, 2}, {1, 1}, {3, 0}}, {{0, 0}, {1, 1}, {2, 1}, {3, 0}}};
    private static final String RACE_TEXT = "hand a;hand b;hand c;key 1 1 10;key 2 1 20;"
        + "open c;seek c 1 1;open a;seek a 1 1;grab a 1 1;open b;grab b 2 1;grab a 2 1;seek b 1 1;end a;grab c 1 1;end b;end c;";

    /** BY CHANCE once, by calls: the last number; how often HANDS DIED and their outcomes are left in told. */
    private static long race(long seed, int[] told) {
        Case c = new Case("race", RACE_TEXT, 18);
        int[] done = new int[3];
        long last = seed;
        for (int turn = 0; turn < 13; turn++) {
            int[] able = new int[3];
            int many = 0;
            for (int hand = 0; hand < 3; hand++) {
                if (c.x.hand(hand, 0) != 2 && done[hand] < RACE[hand].length) {
                    able[many] = hand;
                    many++;
                }
            }
            if (many == 0) {
                break;
            }
            last = (last * 1103515245L + 12345L) % (1L << 31);
            int hand = able[(int) (last / 65536 % many)];
            int[] step = RACE[hand][done[hand]];
            done[hand]++;
            int got = step[0] == 0 ? c.x.open(hand) : step[0] == 1 ? c.x.seek(hand, step[1], 1)
                : step[0] == 2 ? c.x.grab(hand, step[1], 1) : c.x.end(hand);
            c.due("a known answer", got >= -4 && got <= 20 ? 1 : 0, 1);
        }
        told[0] = c.x.count(8);
        for (int hand = 0; hand < 3; hand++) {
            told[1 + hand] = c.x.outcome(hand);
        }
        return last;
    }

    /** "BY CHANCE ten times, the numbers going on: in how many some HAND DIES" */
    private static void chanceOfTen() {
        Case c = new Case("chance", RACE_TEXT, 18);
        int[] told = new int[4];
        boolean[] seen = new boolean[11];
        for (int i = 0; i < 40; i++) {
            int seed = i < 20 ? i : i < 39 ? i * 54321 * 987 & MOST : MOST;
            long last = seed;
            int died = 0;
            for (int k = 0; k < 10; k++) {
                last = race(last, told);
                died += told[0] > 0 ? 1 : 0;
            }
            c.due("chance(" + seed + ")", c.x.chance(seed), died);
            seen[died] = true;
        }
        int kinds = 0;
        for (boolean one : seen) {
            kinds += one ? 1 : 0;
        }
        c.due("not always as many", kinds > 3 ? 1 : 0, 1);
    }

    private static void chanceAtEdges() {
        Case c = new Case("chance", CROSS, 12);
        c.due("below 0", c.x.chance(-1), -1);
        c.due("below 0", c.x.chance(LEAST), -1);
        c.due("the least", c.x.chance(0) >= 0 ? 1 : 0, 1);
        c.due("the greatest", c.x.chance(MOST) >= 0 ? 1 : 0, 1);
        String before = c.all();
        c.x.chance(5);
        c.due("all stays", c.all(), before);
        Case d = new Case("one HAND", "hand a;key 1 1 1;open a;grab a 1 1;grab a 1 1;end a;", 6);
        for (int seed = 0; seed < 10; seed++) {
            d.due("never DIES", d.x.chance(seed), 0);
        }
        Case e = new Case("stuck", STUCK, 17);
        e.due("ends", e.x.chance(1) >= 0 ? 1 : 0, 1);
    }

    /** "(as outcome(); -5: no such HAND); NONE also: the seed is below 0 (that first)" */
    private static void fateAtEdges() {
        Case c = new Case("fate", RACE_TEXT, 18);
        int[] told = new int[4];
        for (int i = 0; i < 40; i++) {
            int seed = i < 39 ? i * 7919 : MOST;
            race(seed, told);
            for (int hand = 0; hand < 3; hand++) {
                c.due("fate(" + seed + ", " + hand + ")", c.x.fate(seed, hand), told[1 + hand]);
            }
        }
        for (int far : new int[] {-1, 3, 5, 32, LEAST, MOST}) {
            c.due("HAND " + far, c.x.fate(0, far), -5);
            c.due("the seed first", c.x.fate(-1, far), -1);
            c.due("the seed first", c.x.fate(LEAST, far), -1);
        }
        c.due("a right HAND", c.x.fate(-1, 0), -1);
        Case d = new Case("one STEP each", "hand a;hand b;hand c;open a;open b;", 5);
        d.due("a's first is its last", d.x.fate(0, 0), 0);
        d.due("b's, too", d.x.fate(0, 1), 0);
        d.due("c has none", d.x.fate(0, 2), -1);
        d.due("nothing is done by it", d.x.outcome(0), -1);
        StringBuilder s = new StringBuilder("hand a;key 1 1 5;open a;");
        for (int i = 1; i <= 23; i++) {
            s.append("set a 1 1 ").append(i).append(';');
        }
        d.due("all 24 STEPS are done", new Case("24 STEPS", s.toString(), 26).x.fate(0, 0), 22);
        Case e = new Case("WAITS at its end", "hand a;hand b;key 1 1 7;open a;grab a 1 1;open b;grab b 1 1;", 7);
        for (int seed = 0; seed < 10; seed++) {
            int a = e.x.fate(seed, 0);
            int b = e.x.fate(seed, 1);
            e.due("one has it, one WAITS", a == 7 && b == -2 || a == -2 && b == 7 ? 1 : 0, 1);
        }
    }

    /** Five HANDS, 16 KEYS, 24 STEPS: all that is tried comes to its end. */
    private static void fullText() {
        StringBuilder s = new StringBuilder("hand a;hand b;hand c;hand d;hand e;");
        for (int i = 1; i <= 16; i++) {
            s.append("key ").append(i).append(" 1 1;");
        }
        for (char hand = 'a'; hand <= 'e'; hand++) {
            s.append("open ").append(hand).append(";scan ").append(hand).append(" 1 1 16 1;");
            s.append("put ").append(hand).append(" 1 1 1;end ").append(hand).append(';');
        }
        String quiet = s + "open a;open b;open c;open d;";
        Case c = new Case("quiet", quiet, 45);
        c.due("same", c.x.same(), 120);
        c.due("culprit", c.x.culprit(), -2);
        c.due("chance", c.x.chance(MOST), 0);
        for (int what = 0; what <= 4; what++) {
            c.due("tried", c.x.tried(what, 0), 0);
        }
        for (int hand = 0; hand < 5; hand++) {
            c.due("tried without", c.x.tried(2, hand), 0);
            c.due("sameOrder", c.x.sameOrder(hand), hand);
            c.due("fate", c.x.fate(1, hand), 0);
        }
        for (int step = 0; step < 23; step++) {
            c.due("swapped", c.x.swapped(step), 0);
        }
        c.due("no next", c.x.swapped(23), -1);
        c.due("run", c.x.run(24), 0);
        c.due("OPEN", c.x.count(6), 4);
        Case d = new Case("loud", s.toString().replace("put a 1 1 1;end a;", "") + "set b 1 1 2;quit b;" + "open b;set b 2 1 3;cut b 3 1;set c 1 1 5;",
            45);
        d.due("all done or passed but what b can't", d.x.run(24), 1);
        d.due("b WAITS for a", d.x.hand(1, 1), 1);
        d.due("one is answered -2", d.x.tried(0, 0), 1);
        d.due("DIES instead", d.x.tried(4, 0), 1);
        d.due("none DIES", d.x.culprit(), -2);
        d.due("all orders", d.x.same(), 120);
    }

    /** "how many there are; NONE: there are 16"; "how many are left; NONE: there is none" */
    private static void takeAndBackAtEdges() {
        Case c = new Case("take", CROSS, 12);
        c.due("none", c.x.back(), -1);
        for (int i = 1; i <= 16; i++) {
            c.due("take", c.x.take(), i);
            c.x.run(i <= 8 ? 1 : 0);
        }
        String before = c.all();
        c.due("there are 16", c.x.take(), -1);
        c.due("there are 16", c.x.take(), -1);
        c.due("all stays", c.all(), before);
        for (int i = 15; i >= 0; i--) {
            c.due("back", c.x.back(), i);
            c.due("how far it was", c.x.count(3), i < 8 ? i : 8);
            c.due("count", c.x.count(11), i);
        }
        before = c.all();
        c.due("there is none", c.x.back(), -1);
        c.due("all stays", c.all(), before);
        c.due("take anew", c.x.take(), 1);
    }

    /** "A SNAPSHOT keeps all": INDEX, LOCKS, HANDS, their changes, STEPS */
    private static void snapshotKeepsAll() {
        String text = "hand a;hand b;hand c;key 10 1 5;key 20 1 6;open a;open b;open c;grab a 10 1;put b 15 1 3;grab b 10 1;end b;"
            + "cut c 20 1;seek c 25 1;";
        Case c = new Case("keeps all", text, 14);
        c.x.run(24);
        c.due("kept", c.x.count(4), 1);
        String before = c.all();
        c.due("take", c.x.take(), 1);
        c.x.end(0);
        c.x.end(2);
        c.x.open(0);
        c.x.set(0, 10, 1, 99);
        c.x.run(24);
        c.due("another state", c.all().equals(before) ? 1 : 0, 0);
        c.due("back", c.x.back(), 0);
        c.due("all", c.all(), before);
        c.x.quit(2);
        c.due("changes are undone as then", c.x.count(10), 0);
        c.due("put by b", c.key(1, 3), 1);
        c.x.quit(0);
        c.due("b goes on", c.x.outcome(1), 5);
        c.due("its kept STEP is done", c.x.run(0), 0);
        c.due("end b", c.x.answer(6), 0);
        c.due("b's KEY stays", c.x.count(1), 3);
    }

    /** What a HAND that WAITS came to do and needs is kept, too. */
    private static void snapshotKeepsNeeds() {
        Case c = new Case("needs", "hand a;hand b;hand c;key 10 1 5;key 20 1 6;", 5);
        c.x.open(0);
        c.x.open(1);
        c.x.open(2);
        c.x.grab(0, 10, 1);
        c.x.seek(2, 15, 1);
        c.due("b WAITS for a", c.x.set(1, 10, 1, 7), -2);
        c.x.take();
        c.x.quit(1);
        c.x.open(1);
        c.due("b WAITS for c", c.x.put(1, 17, 1, 9), -2);
        c.due("for c", c.x.hand(1, 1), 4);
        c.x.take();
        c.x.quit(1);
        c.due("back", c.x.back(), 1);
        c.due("for c", c.x.hand(1, 1), 4);
        c.x.end(2);
        c.due("its put came", c.x.outcome(1), 3);
        c.due("back", c.x.back(), 0);
        c.due("for a", c.x.hand(1, 1), 1);
        c.due("two KEYS", c.x.count(1), 2);
        c.x.end(2);
        c.due("WAITS yet", c.x.outcome(1), -2);
        c.x.end(0);
        c.due("its set came", c.x.outcome(1), 5);
        c.due("VALUE", c.key(0, 1), 7);
    }

    private static void snapshotKeepsTape() {
        Case c = new Case("tape");
        c.feedAll("hand z;");
        c.x.take();
        c.due("a FAULT", c.x.text(3), -1);
        c.feedAll("hand y;hand x;hand w;");
        c.due("back", c.x.back(), 0);
        c.due("as many as then", c.x.text(21), -2);
        c.due("what was there then", c.x.text(7), 1);
        c.due("z", c.x.named(26 << 25), 0);
    }

    /** "NONE for another what" */
    private static void countAtEdges() {
        Case c = new Case("count", CROSS, 12);
        for (int far : new int[] {-1, 12, 13, LEAST, MOST}) {
            c.due("count(" + far + ")", c.x.count(far), -1);
        }
        int[] told = {2, 2, 8, 0, 0, 0, 0, 0, 0, 30, 0, 0};
        for (int what = 0; what < 12; what++) {
            c.due("told: count(" + what + ")", c.x.count(what), told[what]);
        }
        c.x.run(5);
        int[] then = {2, 2, 8, 5, 0, 2, 1, 1, 0, 30, 0, 0};
        for (int what = 0; what < 12; what++) {
            c.due("then: count(" + what + ")", c.x.count(what), then[what]);
        }
        c.x.run(1);
        c.x.cut(0, 1, 1);
        c.x.take();
        int[] last = {2, 2, 8, 6, 0, 2, 1, 0, 1, 30, 1, 1};
        for (int what = 0; what < 12; what++) {
            c.due("last: count(" + what + ")", c.x.count(what), last[what]);
        }
    }
}
