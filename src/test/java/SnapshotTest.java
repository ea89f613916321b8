/** Promises 47 to 49: SNAPSHOTS taken and put back, counts. */
final class SnapshotTest {
    private static final String TEXT = "hand a;hand b;hand c;key 10 1 100;key 20 1 200;open a;open b;grab a 10 1;"
        + "grab b 10 1;set b 20 1 5;end a;end b;";

    public static void main(String[] args) {
        takeAndBack();
        manyKept();
        keepsAll();
        faultBehindBack();
        counts();
        Case.finish();
    }

    private static void takeAndBack() {
        Case c = new Case("take", TEXT, 12);
        c.due("none", c.x.back(), -1);
        c.x.run(5);
        c.due("kept", c.x.count(4), 1);
        c.due("take", c.x.take(), 1);
        c.x.run(24);
        c.due("ran", c.x.count(3), 7);
        c.due("value", c.key(1, 1), 5);
        c.due("back", c.x.back(), 0);
        c.due("steps", c.x.count(3), 4);
        c.due("kept", c.x.count(4), 1);
        c.due("b WAITS", c.x.hand(1, 0), 2);
        c.due("for a", c.x.hand(1, 1), 1);
        c.due("line", c.x.queue(0), 1);
        c.due("locks", c.x.count(5), 1);
        c.due("outcome", c.x.outcome(1), -2);
        c.due("answer", c.x.answer(4), -5);
        c.due("gone with it", c.x.back(), -1);
        c.due("a quits", c.x.quit(0), 0);
        c.due("b goes on", c.x.outcome(1), 100);
        c.due("the rest", c.x.run(24), 0);
        c.due("set b", c.x.answer(4), 200);
    }

    private static void manyKept() {
        Case c = new Case("many", TEXT, 12);
        c.x.open(0);
        for (int i = 1; i <= 16; i++) {
            c.x.set(0, 10, 1, i);
            c.due("take", c.x.take(), i);
        }
        c.due("no more", c.x.take(), -1);
        c.due("count", c.x.count(11), 16);
        for (int i = 16; i >= 1; i--) {
            c.x.set(0, 10, 1, 9999);
            c.due("back", c.x.back(), i - 1);
            c.due("value", c.key(0, 1), i);
            c.due("changes", c.x.hand(0, 4), i);
        }
        c.x.quit(0);
        c.due("undone", c.key(0, 1), 100);
        c.due("take anew", c.x.take(), 1);
        c.due("a FAULT leaves them", c.tell("x") * 10 + c.x.count(11), -9);
        c.due("a TEXT does not", c.tell(TEXT) * 10 + c.x.count(11), 120);
    }

    private static void keepsAll() {
        Case c = new Case("all", TEXT, 12);
        c.x.feed(0x68616e64, 0x20612020, 0, 0, 0);
        c.x.take();
        c.x.open(0);
        c.x.open(1);
        c.x.grab(0, 10, 1);
        c.x.grab(1, 20, 1);
        c.x.grab(0, 20, 1);
        c.x.grab(1, 10, 1);
        c.due("died", c.x.count(8), 1);
        c.due("a FAULT", c.x.text(6), -1);
        c.due("a FAULT", c.x.fault(0) * 10 + c.x.fault(1), 16);
        c.due("back", c.x.back(), 0);
        c.due("died none", c.x.count(8), 0);
        c.due("the FAULT is of the latest text()", c.x.fault(0) * 10 + c.x.fault(1), 16);
        c.due("the tape, too", c.x.feed(0, 0, 0, 0, 0), 40);
        c.due("outcome", c.x.outcome(0), -1);
        c.due("same is of the TEXT", c.x.same(), c.x.same());
    }

    /** fault() is of the latest text() that was not -2, whatever SNAPSHOTS are put back. */
    private static void faultBehindBack() {
        Case c = new Case("fault behind back");
        c.x.take();
        c.faulty("hand a;open b;", 4, 12);
        c.x.take();
        c.faulty("hand a;hand a;", 3, 12);
        c.due("-2 is not looked at", c.x.text(1), -2);
        c.due("back", c.x.back(), 1);
        c.due("fault", c.x.fault(0) * 100 + c.x.fault(1), 312);
        c.due("back", c.x.back(), 0);
        c.due("fault", c.x.fault(0) * 100 + c.x.fault(1), 312);
        c.due("no such what", c.x.fault(2), -1);
        c.due("a right text", c.tell(TEXT), 12);
        c.x.take();
        c.x.back();
        c.due("no FAULT", c.x.fault(0) * 10 + c.x.fault(1), -1);
    }

    private static void counts() {
        Case c = new Case("count", TEXT, 12);
        c.x.open(2);
        c.x.put(2, 30, 1, 7);
        c.x.cut(2, 20, 1);
        c.x.seek(2, 25, 1);
        c.x.run(4);
        c.x.take();
        int[] due = {3, 3, 7, 4, 0, 4, 2, 1, 0, 307, 1, 1};
        for (int i = 0; i < due.length; i++) {
            c.due("count(" + i + ")", c.x.count(i), due[i]);
        }
        c.due("no such", c.x.count(12), -1);
        c.due("no such", c.x.count(-1), -1);
    }
}
