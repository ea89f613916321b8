/** Promises 28 to 32, 40 to 42, 46: STEPS done, ALONE, SAME, BY CHANCE, TRIED. */
final class RunTest {
    private static final String TWO = "hand a;hand b;key 1 1 10;key 2 1 20;";
    private static final String CROSS = TWO
        + "open a;open b;grab a 1 1;grab b 2 1;grab a 2 1;grab b 1 1;end a;end b;";

    public static void main(String[] args) {
        runInParts();
        keptSteps();
        passedSteps();
        same();
        sameOrder();
        sameGoesOn();
        tried();
        culprit();
        swapped();
        chance();
        fate();
        Case.finish();
    }

    private static void runInParts() {
        Case c = new Case("run", CROSS, 12);
        c.due("none", c.x.run(0), 8);
        c.due("too many", c.x.run(25), -1);
        c.due("below 0", c.x.run(-1), -1);
        c.due("answer of none", c.x.answer(0), -5);
        c.due("two", c.x.run(2), 6);
        c.due("answer", c.x.answer(1), 0);
        c.due("not come to", c.x.answer(2), -5);
        c.due("three", c.x.run(3), 3);
        c.due("WAITED", c.x.answer(4), -2);
        c.due("the rest", c.x.run(24), 0);
        c.due("DIED", c.x.answer(5), -3);
        c.due("WAITED then", c.x.answer(4), -2);
        c.due("passed", c.x.answer(7), -1);
        c.due("no such", c.x.answer(8), -6);
        c.due("no such", c.x.answer(-1), -6);
        c.due("no more", c.x.run(24), 0);
        c.due("no steps", new Case("run").x.run(24), 0);
        c.due("no steps", new Case("run").x.answer(0), -6);
    }

    private static void keptSteps() {
        Case c = new Case("kept", TWO + "open a;open b;grab a 1 1;grab b 1 1;set b 1 1 5;end b;set a 1 1 7;end a;", 12);
        c.due("six", c.x.run(6), 4);
        c.due("kept", c.x.count(4), 2);
        c.due("kept isn't done", c.x.answer(4), -5);
        c.due("done", c.x.count(3), 4);
        c.due("end by call", c.x.end(0), 0);
        c.due("still kept", c.x.count(4), 2);
        c.due("RUN of no STEP does them", c.x.run(0), 2);
        c.due("set b", c.x.answer(4), 10);
        c.due("end b", c.x.answer(5), 0);
        c.due("passed", c.x.run(2), 0);
        c.due("passed", c.x.answer(6), -1);
        c.due("value", c.key(0, 1), 5);
        Case d = new Case("ahead of each", TWO + "hand c;open a;open b;open c;grab a 1 1;grab b 1 1;grab b 2 1;grab c 2 1;"
            + "end a;grab c 2 1;end b;end c;", 16);
        d.due("all", d.x.run(24), 0);
        d.due("c ahead of b's kept one", d.x.answer(6), 20);
        d.due("b's kept one, done ahead of the next step", d.x.answer(5), -2);
        d.due("c has it", d.x.answer(8), 20);
        d.due("c ends", d.x.answer(10), 0);
        d.due("b went on", d.x.outcome(1), 0);
        Case e = new Case("by numbers", TWO + "hand c;hand d;open a;open b;open c;grab a 1 1;seek c 1 1;seek b 1 1;"
            + "set c 2 1 30;set b 2 1 40;end a;", 15);
        e.due("left", e.x.run(24), 0);
        e.due("c is the first by numbers", e.x.answer(6), 20);
        e.due("b WAITS then", e.x.answer(7), -2);
    }

    private static void passedSteps() {
        Case c = new Case("passed", TWO + "seek a 1 1;open a;open a;end b;quit a;quit a;", 10);
        c.due("all", c.x.run(24), 0);
        int[] due = {-1, 0, -1, -1, 0, -1};
        for (int i = 0; i < due.length; i++) {
            c.due("answer " + i, c.x.answer(i), due[i]);
        }
        c.due("done or passed", c.x.count(3), 6);
    }

    private static void same() {
        c("same", TWO + "open a;open b;set a 1 1 5;end a;set b 1 1 6;end b;", 10, 1);
        c("same", TWO + "open a;open b;set a 1 1 5;set b 2 1 6;end a;end b;", 10, 2);
        c("none", TWO + "open a;open b;set b 1 1 5;end b;set a 1 1 6;end a;open b;cut b 2 1;end b;", 13, 1);
        c("never", TWO + "open a;set a 1 1 5;end a;open b;set b 1 1 6;end b;open a;set a 1 1 5;end a;", 13, 1);
        c("not at all", TWO + "open a;set a 1 1 5;end a;open b;set b 1 1 6;set b 2 1 6;end b;open a;set a 2 1 5;end a;", 14, 0);
        c("values", TWO + "open a;cut a 1 1;end a;open b;put b 1 1 7;", 9, 1);
        c("hands without steps", "hand a;hand b;hand c;hand d;hand e;key 1 1 1;", 6, 120);
        c("with them", "hand a;hand b;hand c;hand d;hand e;key 1 1 1;open e;set e 1 1 4;open b;set b 1 1 5;", 10, 60);
        c("no hands", "key 1 1 1;", 1, 1);
        Case d = new Case("apart from what is", CROSS, 12);
        d.due("same", d.x.same(), 2);
        d.x.open(0);
        d.x.set(0, 1, 1, 77);
        d.due("same", d.x.same(), 2);
        d.due("nothing is done by it", d.key(0, 1) * 10 + d.x.count(3), 770);
        d.due("anew", d.tell(TWO + "open a;open b;set a 1 1 5;end a;set b 1 1 6;end b;"), 10);
        d.due("same", d.x.same(), 1);
    }

    private static void c(String name, String text, int lines, int want) {
        Case c = new Case(name, text, lines);
        c.due("same of " + text, c.x.same(), want);
    }

    private static void sameOrder() {
        Case c = new Case("order", "hand a;hand b;hand c;key 1 1 1;open c;set c 1 1 3;end c;open a;set a 1 1 4;end a;", 10);
        int[] due = {1, 2, 0, -2};
        for (int i = 0; i < due.length; i++) {
            c.due("order " + i, c.x.sameOrder(i), due[i]);
        }
        c.due("below 0", c.x.sameOrder(-1), -1);
        c.due("same", c.x.same(), 3);
        Case d = new Case("no order", TWO
            + "open a;set a 1 1 5;end a;open b;set b 1 1 6;set b 2 1 6;end b;open a;set a 2 1 5;end a;", 14);
        d.due("none", d.x.sameOrder(0), -2);
        d.due("below 0", d.x.sameOrder(-1), -1);
        d.due("no hands", new Case("none").x.sameOrder(0), -2);
    }

    /** Behind the RUN a ENDS, b's kept STEPS are done, b ENDS. */
    private static void sameGoesOn() {
        c("goes on", TWO + "open a;open b;set a 1 1 5;set b 1 1 6;set b 2 1 7;", 9, 1);
        c("in the other order", TWO + "open a;open b;set b 1 1 6;set a 1 1 5;set a 2 1 7;", 9, 1);
    }

    private static void tried() {
        Case c = new Case("tried", "hand a;hand b;key 10 1 1;key 20 1 2;open a;open b;scan a 10 1 20 1;put b 15 1 1;"
            + "set b 20 1 5;end a;end b;", 11);
        c.due("as they are", c.x.tried(0, 0), 1);
        c.due("no GAPS", c.x.tried(1, 0), 1);
        c.due("without a", c.x.tried(2, 0), 0);
        c.due("without b", c.x.tried(2, 1), 0);
        c.due("scan takes none", c.x.tried(3, 0), 0);
        c.due("DIES instead", c.x.tried(4, 0), 1);
        c.due("no such", c.x.tried(5, 0), -1);
        c.due("no such", c.x.tried(-1, 0), -1);
        c.due("no such", c.x.tried(2, 2), -1);
        c.due("no such", c.x.tried(2, -1), -1);
        c.due("i of others", c.x.tried(0, 1), -1);
        c.due("i of others", c.x.tried(4, -1), -1);
        Case d = new Case("cross", CROSS, 12);
        d.due("-2 and -3", d.x.tried(0, 0), 2);
        d.due("no GAPS", d.x.tried(1, 0), 2);
        d.due("DIES instead", d.x.tried(4, 0), 1);
        Case e = new Case("grab takes", TWO + "open a;open b;seek a 1 1;grab b 1 1;end a;grab b 2 1;seek a 2 1;open a;seek a 2 1;", 13);
        e.due("as they are", e.x.tried(0, 0), 2);
        e.due("seek needs none", e.x.tried(3, 0), 0);
        Case f = new Case("kept that are never done", TWO + "open a;open b;grab a 1 1;grab b 1 1;grab b 2 1;", 9);
        f.due("one", f.x.tried(0, 0), 1);
    }

    private static void culprit() {
        Case c = new Case("culprit", CROSS, 12);
        c.due("open a", c.x.culprit(), 0);
        Case d = new Case("twice", "hand a;hand b;key 1 1 1;key 2 1 2;open a;open a;open b;open b;grab a 1 1;grab a 1 1;"
            + "grab b 2 1;grab b 2 1;grab a 2 1;grab b 1 1;", 14);
        d.due("the grab of a", d.x.culprit(), 8);
        Case e = new Case("no such", CROSS + "hand c;hand d;key 3 1 1;key 4 1 2;open c;open d;grab c 3 1;grab d 4 1;"
            + "grab c 4 1;grab d 3 1;" + "end c;".repeat(10), 32);
        e.due("none alone", e.x.culprit(), -3);
        Case f = new Case("none", TWO + "open a;grab a 1 1;", 6);
        f.due("none DIES", f.x.culprit(), -2);
    }

    private static void swapped() {
        Case c = new Case("swapped", CROSS, 12);
        c.due("opens", c.x.swapped(0), 2);
        c.due("grab a 2 ahead of grab b 2", c.x.swapped(3), 1);
        c.due("grab a 2 and grab b 1", c.x.swapped(4), 2);
        c.due("b ends ahead of its grab", c.x.swapped(5), 2);
        c.due("the last two", c.x.swapped(6), 2);
        c.due("no next", c.x.swapped(7), -1);
        c.due("below 0", c.x.swapped(-1), -1);
        Case d = new Case("swapped", TWO + "open a;open b;grab a 1 1;grab b 1 1;end a;end b;", 10);
        d.due("as they are", d.x.tried(0, 0), 1);
        d.due("a ends ahead of b's grab", d.x.swapped(3), 0);
        d.due("b's grab ahead of a's", d.x.swapped(2), 1);
        d.due("open b behind a's grab", d.x.swapped(1), 1);
    }

    private static void chance() {
        Case c = new Case("chance", CROSS, 12);
        int some = 0;
        for (int seed : new int[] {0, 1, 2, 12345, 2147483647}) {
            int got = c.x.chance(seed);
            int want = 0;
            long last = seed;
            for (int i = 0; i < 10; i++) {
                long[] played = playCross(last);
                last = played[0];
                want += (int) played[1];
            }
            c.due("chance(" + seed + ")", got, want);
            some += got;
        }
        c.due("some DIE, some don't", some > 0 && some < 50 ? 1 : 0, 1);
        c.due("below 0", c.x.chance(-1), -1);
        c.due("below 0", c.x.chance(Integer.MIN_VALUE), -1);
    }

    /** CROSS by calls, as the numbers tell: the last number, and whether one DIED. */
    private static long[] playCross(long seed) {
        Case c = new Case("play", CROSS, 12);
        int[][] steps = {{0, 1, 2, 9}, {0, 2, 1, 9}};
        int[] done = {0, 0};
        long last = seed;
        for (int turn = 0; turn < 8; turn++) {
            boolean a = done[0] < 4 && c.x.hand(0, 0) != 2;
            boolean b = done[1] < 4 && c.x.hand(1, 0) != 2;
            if (!a && !b) {
                break;
            }
            last = (last * 1103515245L + 12345L) % 2147483648L;
            int hand = a && b ? (int) (last / 65536 % 2) : a ? 0 : 1;
            int step = steps[hand][done[hand]];
            done[hand]++;
            if (step == 0) {
                c.x.open(hand);
            } else if (step == 9) {
                c.x.end(hand);
            } else {
                c.x.grab(hand, step, 1);
            }
        }
        return new long[] {last, c.x.count(8) > 0 ? 1 : 0};
    }

    private static void fate() {
        Case c = new Case("fate", CROSS + "hand c;", 13);
        c.due("nothing done", c.x.fate(5, 2), -1);
        c.due("no such", c.x.fate(5, 3), -5);
        c.due("no such", c.x.fate(5, -1), -5);
        c.due("the seed first", c.x.fate(-1, 3), -1);
        c.due("seed 0", c.x.fate(0, 3), -5);
        int died = 0;
        int ended = 0;
        for (int seed = 0; seed < 40; seed++) {
            int a = c.x.fate(seed, 0);
            int b = c.x.fate(seed, 1);
            died += a == -3 || b == -3 ? 1 : 0;
            ended += a == 0 && b == 0 ? 1 : 0;
            long[] played = playCross(seed);
            c.due("seed " + seed, a == -3 || b == -3 ? 1 : 0, played[1]);
        }
        c.due("some DIE", died > 0 ? 1 : 0, 1);
        c.due("some ENDED", ended > 0 ? 1 : 0, 1);
        c.due("nothing is done by it", c.x.count(3), 0);
    }
}
