/** Promises 1 to 5: a new object, feed, text, fault, named. */
final class TextTest {
    private static final String GOOD = "hand a;hand bc;key 10 1 100;key 1 3 7;open a;scan a 1 1 2 1;";

    public static void main(String[] args) {
        newObject();
        feed();
        text();
        wrongTokens();
        tooMuch();
        toldAlready();
        unknownAndTurned();
        named();
        Case.finish();
    }

    private static void newObject() {
        Case c = new Case("new");
        int[] zero = {0, 1, 2, 3, 4, 5, 6, 7, 8, 9, 10, 11};
        for (int what : zero) {
            c.due("count(" + what + ")", c.x.count(what), 0);
        }
        c.due("fault(0)", c.x.fault(0), 0);
        c.due("fault(1)", c.x.fault(1), -1);
        c.due("text(0)", c.x.text(0), 0);
        c.due("text(1)", c.x.text(1), -2);
        c.due("named", c.x.named(1 << 25), -1);
        c.due("free", c.x.free(), 1);
        c.due("same", c.x.same(), 1);
        c.due("NONE", GapLocks.NONE, -1);
    }

    private static void feed() {
        Case c = new Case("feed");
        for (int i = 1; i <= 35; i++) {
            c.due("feed", c.x.feed(0x20202020, 0x0a0a0a0a, 0x20202020, 0x20202020, 0x20202020), 20 * i);
        }
        c.due("feed beyond 700", c.x.feed(0, 0, 0, 0, 0), -1);
        c.due("text(701)", c.x.text(701), -2);
        c.due("text(700)", c.x.text(700), 0);
        c.due("feed anew", c.x.feed(0x68616e64, 0x20613b61, -1, -1, -1), 20);
        c.due("text(7)", c.x.text(7), 1);
        c.due("bytes in order", c.x.named(1 << 25), 0);
        c.x.feed(0x68616e64, 0x2061ff3b, 0, 0, 0);
        c.due("a byte above 127", c.x.text(8), -1);
        c.due("its place", c.x.fault(1), 6);
    }

    private static void text() {
        Case c = new Case("text", GOOD, 6);
        c.due("hands", c.x.count(0), 2);
        c.due("keys", c.x.count(1), 2);
        c.due("steps", c.x.count(2), 2);
        c.due("fault", c.x.fault(0), 0);
        c.due("place", c.x.fault(1), -1);
        c.due("tape is empty", c.x.text(1), -2);
        c.x.open(0);
        c.x.run(1);
        c.x.take();
        c.due("below 0", c.x.text(-1), -2);
        c.feedAll("hand q");
        c.due("more than there are", c.x.text(21), -2);
        c.due("the tape stays", c.x.text(6), -1);
        c.due("fault of the latest", c.x.fault(0), 1);
        c.due("a FAULT empties the tape", c.x.text(1), -2);
        c.due("-2 leaves the fault", c.x.fault(1), 6);
        c.due("all stays: hands", c.x.count(0), 2);
        c.due("all stays: OPEN", c.x.hand(0, 0), 1);
        c.due("all stays: steps done", c.x.count(3), 1);
        c.due("all stays: snapshots", c.x.count(11), 1);
        c.due("anew", c.tell(GOOD), 6);
        c.due("shut", c.x.hand(0, 0), 0);
        c.due("no step done", c.x.count(3), 0);
        c.due("no snapshot", c.x.back(), -1);
        c.due("outcome", c.x.outcome(0), -1);
        c.due("only the first n", c.x.text(c.feedAll("hand a;") * 0), 0);
        c.due("none then", c.x.count(0), 0);
        c.feedAll("key 1 1 12345;key 2 1 1;");
        c.due("within a number", c.x.text(11), -1);
        c.due("more must come", c.x.fault(0) * 100 + c.x.fault(1), 111);
        c.feedAll("hand abcdefgh;");
        c.due("within a word", c.x.text(11), -1);
        c.due("more must come", c.x.fault(0) * 100 + c.x.fault(1), 111);
        c.due("no blanks needed but to part words", c.tell("\n\nhand\na ;key1 1 1;key 002 01 0003;open\n a;"), 4);
        c.due("leading noughts", c.x.place(2, 1), 1);
        c.due("sorted", new Case("order", "key 3 1 3;key 1 1 1;key 2 1 2;", 3).key(1, 1), 2);
    }

    private static void wrongTokens() {
        Case c = new Case("fault 1");
        c.faulty("hands a;", 1, 0);
        c.faulty("hand abcdefg;", 1, 5);
        c.due("six letters", c.tell("hand abcdef;"), 1);
        c.faulty("abcdefgh a;", 1, 0);
        c.faulty("hand hand;", 1, 5);
        c.faulty("hand quit;", 1, 5);
        c.faulty("hand 1;", 1, 5);
        c.faulty("hand 99999999999;", 1, 5);
        c.faulty("hand A;", 1, 5);
        c.faulty("hand a,", 1, 6);
        c.faulty(";", 1, 0);
        c.faulty("hand a;;", 1, 7);
        c.faulty("hand a b;", 1, 7);
        c.faulty("hand a", 1, 6);
        c.faulty("hand a  ", 1, 8);
        c.faulty("hand", 1, 4);
        c.faulty("key 1 1;", 1, 7);
        c.faulty("key 1 1 1 1;", 1, 10);
        c.faulty("key a 1 1;", 1, 4);
        c.faulty("key 1 1 1", 1, 9);
        c.faulty("hand a;open a 1;", 1, 14);
        c.faulty("hand a;scan a 1 1 1;", 1, 19);
        c.faulty("hand a;seek a 1;", 1, 15);
        c.faulty("hand a;set a 1 1;", 1, 16);
        c.faulty("hand a;put a 1 1 1 1;", 1, 19);
        c.faulty("hand a;cut a 1 1 1;", 1, 17);
        c.faulty("hand a;end;", 1, 10);
        c.faulty("hand a;\topen a;", 1, 7);
        c.faulty("1", 1, 0);
    }

    private static void tooMuch() {
        Case c = new Case("fault 2");
        c.due("the greatest", c.tell("hand a;key 99999999 9999 9999;put a 99999999 9999 9999;"), 3);
        c.due("the least", c.tell("hand a;key 0 1 0;set a 0 1 0;"), 3);
        c.faulty("key 100000000 1 1;", 2, 4);
        c.faulty("key 99999999999999999999999999 1 1;", 2, 4);
        c.faulty("key 4294967297 1 1;", 2, 4);
        c.faulty("key 1 0 1;", 2, 6);
        c.faulty("key 1 10000 1;", 2, 6);
        c.faulty("key 1 1 10000;", 2, 8);
        c.faulty("hand a;scan a 1 1 1 0;", 2, 20);
        c.faulty("hand a;scan a 2 1 1 0;", 2, 20);
        c.faulty("hand a;scan a 100000000 1 1 1;", 2, 14);
        c.faulty("hand a;seek a 1 10000;", 2, 16);
        c.faulty("hand a;grab a 100000000 1;", 2, 14);
        c.faulty("hand a;set a 1 1 10000;", 2, 17);
        c.faulty("hand a;put a 1 1 10000;", 2, 17);
        c.faulty("hand a;cut a 1 0;", 2, 15);
        c.faulty("hand a;hand b;hand c;hand d;hand e;hand a;", 2, 35);
        c.faulty("hand a;hand b;hand c;hand d;hand e;hand", 2, 35);
        c.due("five hands", c.tell("hand a;hand b;hand c;hand d;hand e;"), 5);
        String keys = "";
        for (int i = 10; i < 26; i++) {
            keys += "key " + i + " 1 1;";
        }
        c.due("sixteen keys", c.tell(keys), 16);
        c.faulty(keys + "key 10 1 1;", 2, keys.length());
        String steps = "hand a;" + "end a;".repeat(24);
        c.due("24 steps", c.tell(steps), 25);
        c.due("24 steps and a key", c.tell(steps + "key 1 1 1;"), 26);
        c.faulty(steps + "quit b;", 2, steps.length());
    }

    private static void toldAlready() {
        Case c = new Case("fault 3");
        c.faulty("hand a;hand a;", 3, 12);
        c.faulty("hand ab;hand a;hand ab;", 3, 20);
        c.faulty("key 1 2 1;key 2 4 1;", 3, 14);
        c.faulty("key 16777217 1 5;key 16777216 1 6;", 3, 21);
        c.faulty("key 1 2 1;key 2 4 10000;", 3, 14);
        c.faulty("key 1 2 1;key 2 4;", 3, 14);
        c.faulty("key 1 2 1;key 2 0 1;", 2, 16);
        c.faulty("key 0 2 1;key 0 4 1;", 3, 14);
        c.due("others", c.tell("key 16777218 1 5;key 16777216 1 6;"), 2);
    }

    private static void unknownAndTurned() {
        Case c = new Case("fault 4, 5");
        c.faulty("open a;", 4, 5);
        c.faulty("open a;hand a;", 4, 5);
        c.faulty("hand a;seek b 1 0;", 4, 12);
        c.faulty("hand a;scan a 2 1 1 1;", 5, 18);
        c.faulty("hand a;scan a 2 1 1 1", 5, 18);
        c.faulty("hand a;scan a 1 2 1 3;", 5, 18);
        c.due("alike", c.tell("hand a;scan a 1 2 2 4;"), 2);
        c.due("alike as floats", c.tell("hand a;scan a 16777217 1 16777216 1;"), 2);
        c.due("told in turn", c.tell("hand a;open a;hand b;open b;key 1 1 1;"), 5);
        c.due("a key told behind steps", c.x.count(1), 1);
        c.due("another what", c.x.fault(2), -1);
        c.due("another what", c.x.fault(-1), -1);
    }

    private static void named() {
        Case c = new Case("named", "hand a;hand ab;hand zzzzzz;hand b;", 4);
        c.due("a", c.x.named(1 << 25), 0);
        c.due("ab", c.x.named(1 << 25 | 2 << 20), 1);
        c.due("zzzzzz", c.x.named(26 << 25 | 26 << 20 | 26 << 15 | 26 << 10 | 26 << 5 | 26), 2);
        c.due("b", c.x.named(2 << 25), 3);
        c.due("none", c.x.named(2 << 20), -1);
        c.due("none", c.x.named(0), -1);
        c.due("none", c.x.named(-1), -1);
        c.due("31st bit", c.x.named(1 << 25 | 1 << 30), -1);
    }
}
