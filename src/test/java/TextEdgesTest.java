/** Terms 1 and promises 1 to 5, at their edges: what is refused, what is empty, what is just not too much. */
final class TextEdgesTest {
    private static final int LEAST = Integer.MIN_VALUE;
    private static final int MOST = Integer.MAX_VALUE;
    private static final String STIRRED = "hand a;hand b;hand c;key 10 1 5;key 20 1 6;"
        + "open a;open b;open c;grab a 10 1;grab b 20 1;grab b 10 1;grab b 30 1;end c;";

    public static void main(String[] args) {
        newObjectKeys();
        newObjectHands();
        newObjectTrials();
        feedUpToItsEnd();
        feedRefused();
        feedHighestFirst();
        textOfTooMany();
        textOfNone();
        textOfFewer();
        faultLeavesAll();
        rightTextBeginsAnew();
        faultOfTheLatest();
        blanks();
        signsBesideLetters();
        names();
        numbersByPlace();
        longNumbers();
        cutShort();
        tooManyLines();
        firstAlongTheText();
        scansTurned();
        sameFloats();
        namedByLetters();
        Case.finish();
    }

    /** "A TEXT without LINES; an empty TAPE." */
    private static void newObjectKeys() {
        Case c = new Case("new object, KEYS");
        c.due("tape", c.x.text(1), -2);
        c.due("key", c.thrownByKey(0, 0), "IndexOutOfBoundsException");
        c.due("bits need no TEXT", c.x.bits(1, 1), Case.bits(1f));
        c.due("place is END's", c.x.place(5, 1), 0);
        c.due("width", c.x.width(0, 0), -1);
        c.due("sum", c.x.sum(), 0);
        c.due("widest", c.x.widest(), -2);
        c.due("free: END's", c.x.free(), 1);
        c.due("range", c.x.range(1, 999990001, 0), 0);
        c.due("range", c.x.range(1, 999990001, 1), 0);
        c.due("range", c.x.range(1, 999990001, 2), 0);
        c.due("between", c.x.between(0), -1);
        c.due("mean", c.x.mean(), -2);
        c.due("ratio", c.x.ratio(0, 0), -1);
        c.due("nearest", c.x.nearest(0, 1), -2);
        c.due("fault", c.x.fault(0), 0);
        c.due("place of it", c.x.fault(1), -1);
        c.due("back", c.x.back(), -1);
        for (int what = 0; what < 12; what++) {
            c.due("count(" + what + ")", c.x.count(what), 0);
        }
        c.due("take", c.x.take(), 1);
        c.due("back", c.x.back(), 0);
        c.due("back", c.x.back(), -1);
    }

    private static void newObjectHands() {
        Case c = new Case("new object, HANDS");
        c.due("named", c.x.named(1 << 25), -1);
        c.due("lock", c.x.lock(0, 0, 0), -1);
        c.due("hand", c.x.hand(0, 0), -1);
        c.due("queue", c.x.queue(0), -2);
        c.due("queue", c.x.queue(-1), -1);
        c.due("stops", c.x.stops(0, 1, 1, 0), -1);
        c.due("ring", c.x.ring(0, 1), -1);
        c.due("open", c.x.open(0), -1);
        c.due("scan", c.x.scan(0, 10001, 10001), -1);
        c.due("seek", c.x.seek(0, 1, 1), -1);
        c.due("grab", c.x.grab(0, 1, 1), -1);
        c.due("set", c.x.set(0, 1, 1, 1), -1);
        c.due("put", c.x.put(0, 1, 1, 1), -1);
        c.due("cut", c.x.cut(0, 1, 1), -1);
        c.due("end", c.x.end(0), -1);
        c.due("quit", c.x.quit(0), -1);
        c.due("outcome", c.x.outcome(0), -5);
        c.due("held", c.x.held(0, 0), -1);
        c.due("phantoms", c.x.phantoms(0, 1, 10001), -1);
        c.due("putNext", c.x.putNext(0, 0, 1), -1);
        c.due("wakes", c.x.wakes(0), -1);
        c.due("loses", c.x.loses(0), LEAST);
    }

    private static void newObjectTrials() {
        Case c = new Case("new object, STEPS");
        c.due("run", c.x.run(0), 0);
        c.due("run", c.x.run(24), 0);
        c.due("run", c.x.run(25), -1);
        c.due("answer", c.x.answer(0), -6);
        c.due("same: the one order of no HANDS", c.x.same(), 1);
        c.due("sameOrder", c.x.sameOrder(0), -2);
        c.due("sameOrder", c.x.sameOrder(-1), -1);
        c.due("chance", c.x.chance(0), 0);
        c.due("chance", c.x.chance(-1), -1);
        for (int what = 0; what <= 4; what++) {
            c.due("tried(" + what + ", 0)", c.x.tried(what, 0), what == 2 ? -1 : 0);
        }
        c.due("culprit", c.x.culprit(), -2);
        c.due("swapped", c.x.swapped(0), -1);
        c.due("fate", c.x.fate(0, 0), -5);
        c.due("fate", c.x.fate(-1, 0), -1);
    }

    /** "how many it has; NONE, and none come, if it would have more than 700" */
    private static void feedUpToItsEnd() {
        Case c = new Case("feed");
        int blanks = 0x20202020;
        for (int i = 1; i <= 34; i++) {
            c.due("feed " + i, c.x.feed(blanks, blanks, blanks, blanks, blanks), 20 * i);
        }
        c.due("700", c.x.feed(blanks, blanks, blanks, 0x2068616e, 0x6420613b), 700);
        c.due("more", c.x.feed(blanks, blanks, blanks, blanks, blanks), -1);
        c.due("and again", c.x.feed(blanks, blanks, blanks, blanks, blanks), -1);
        c.due("none came", c.x.text(701), -2);
        c.due("all that was there", c.x.text(700), 1);
        c.due("to its last byte", c.x.named(1 << 25), 0);
    }

    private static void feedRefused() {
        Case c = new Case("feed refused");
        c.feedAll(" ".repeat(699) + "x");
        c.due("full", c.x.feed(0, 0, 0, 0, 0), -1);
        c.due("none came", c.x.text(699), 0);
        c.due("empty again", c.x.feed(0, 0, 0, 0, 0), 20);
    }

    /** "four of each number, the highest first" */
    private static void feedHighestFirst() {
        Case c = new Case("feed bytes");
        c.x.feed(0x68616e64, 0x20616263, 0x6465663b, 0xff202020, 0x20202020);
        c.due("a byte of 255 is no blank", c.x.text(13), -1);
        c.due("at its place", c.x.fault(1), 12);
        c.x.feed(0x68616e64, 0x20616263, 0x6465663b, 0xff202020, 0x20202020);
        c.due("ahead of it", c.x.text(12), 1);
        c.due("abcdef", c.x.named(1 << 25 | 2 << 20 | 3 << 15 | 4 << 10 | 5 << 5 | 6), 0);
        c.x.feed(0x80202020, 0, 0, 0, 0);
        c.due("128", c.x.text(1) * 10 + c.x.fault(1), -10);
    }

    /** "-2, and the TAPE stays: there are not so many, n is below 0" */
    private static void textOfTooMany() {
        Case c = new Case("text of too many");
        c.due("of none there", c.x.text(1), -2);
        c.feedAll("hand a;hand b;");
        for (int n : new int[] {21, 22, 700, 701, MOST, -1, -20, LEAST}) {
            c.due("text(" + n + ")", c.x.text(n), -2);
        }
        c.due("no HANDS", c.x.count(0), 0);
        c.due("the TAPE stays", c.x.feed(0x68616e64, 0x20633b20, 0x20202020, 0x20202020, 0x20202020), 40);
        c.due("just so many", c.x.text(40), 3);
        c.due("gone", c.x.text(1), -2);
    }

    private static void textOfNone() {
        Case c = new Case("text of none", "hand a;key 1 1 1;open a;", 3);
        c.feedAll("hand q;");
        c.due("no LINES", c.x.text(0), 0);
        c.due("the TAPE is empty", c.x.text(1), -2);
        c.due("HANDS", c.x.count(0), 0);
        c.due("KEYS", c.x.count(1), 0);
        c.due("STEPS", c.x.count(2), 0);
        c.due("no FAULT", c.x.fault(0) * 10 + c.x.fault(1), -1);
        c.due("blanks alone", c.tell(" \n \n"), 0);
        c.due("of an empty TAPE", c.x.text(0), 0);
    }

    private static void textOfFewer() {
        Case c = new Case("text of fewer");
        c.feedAll("hand a;hand b;hand c;");
        c.due("the first two", c.x.text(14), 2);
        c.due("HANDS", c.x.count(0), 2);
        c.due("the rest is gone", c.x.feed(0, 0, 0, 0, 0), 20);
    }

    private static Case stirred(String name) {
        Case c = new Case(name, STIRRED, 13);
        c.x.run(7);
        c.x.take();
        c.x.grab(0, 20, 1);
        c.x.put(2, 15, 1, 3);
        return c;
    }

    /** "NONE with a FAULT, all stays" */
    private static void faultLeavesAll() {
        Case c = stirred("all stays");
        c.due("one DIED", c.x.count(8), 1);
        c.due("one kept", c.x.count(4), 1);
        String before = c.all();
        c.due("FAULT", c.tell("hand z;key 1 1 1;open z;open y;"), -1);
        c.due("all", c.all(), before);
        c.due("the HAND of it isn't there", c.x.named(26 << 25), -1);
        c.due("those there are", c.x.named(3 << 25), 2);
        c.due("its FAULT", c.x.fault(0) * 100 + c.x.fault(1), 429);
    }

    /** "the INDEX as told, all HANDS shut, no STEP done, no SNAPSHOT" */
    private static void rightTextBeginsAnew() {
        Case c = stirred("anew");
        c.due("the same TEXT", c.tell(STIRRED), 13);
        c.due("as in a new object", c.all(), new Case("fresh", STIRRED, 13).all());
        c.due("no SNAPSHOT", c.x.back(), -1);
        c.due("no HAND WAITS", c.x.queue(0), -2);
        c.x.open(1);
        c.due("no changes of before", c.x.hand(1, 4), 0);
        c.due("quit", c.x.quit(1), 0);
        c.due("undoes nothing", c.x.count(9), 11);
        Case d = new Case("changes of before", "hand a;key 1 1 1;", 2);
        d.x.open(0);
        d.x.set(0, 1, 1, 50);
        d.due("another TEXT", d.tell("hand a;key 1 1 7;"), 2);
        d.x.open(0);
        d.x.quit(0);
        d.due("VALUE as told", d.key(0, 1), 7);
        Case e = new Case("one that WAITS", "hand a;hand b;key 1 1 1;", 3);
        e.x.open(0);
        e.x.open(1);
        e.x.grab(0, 1, 1);
        e.x.grab(1, 1, 1);
        e.due("another TEXT", e.tell("hand a;hand b;key 1 1 7;"), 3);
        e.due("none WAITS", e.x.queue(0) * 10 + e.x.count(7), -20);
        e.x.open(0);
        e.x.end(0);
        e.due("none is let on", e.x.outcome(1), -1);
    }

    /** "Of the latest text() that was not -2" */
    private static void faultOfTheLatest() {
        Case c = new Case("fault");
        c.faulty("hand a;hand a;", 3, 12);
        c.x.text(-1);
        c.x.text(1);
        c.due("-2 isn't looked at", c.x.fault(0) * 100 + c.x.fault(1), 312);
        for (int what : new int[] {-1, 2, 3, MOST, LEAST}) {
            c.due("fault(" + what + ")", c.x.fault(what), -1);
        }
        c.due("a right one", c.x.text(0), 0);
        c.due("no FAULT", c.x.fault(0), 0);
        c.due("no place", c.x.fault(1), -1);
        for (int what : new int[] {-1, 2}) {
            c.due("fault(" + what + ")", c.x.fault(what), -1);
        }
        c.faulty(";", 1, 0);
        c.due("place 0 is a place", c.x.fault(1), 0);
    }

    /** "Blanks 10, 32." */
    private static void blanks() {
        Case c = new Case("blanks");
        c.due("10 and 32", c.tell("\n hand \n a \n; \n"), 1);
        c.due("none needed beside numbers", c.tell("key1 1 1;"), 1);
        c.due("nor between a number and a word", c.tell("hand a;seek a1 1;"), 2);
        for (int blank : new int[] {0, 9, 11, 12, 13, 31, 33, 127, 160}) {
            c.faulty("hand" + (char) blank + "a;", 1, 4);
        }
        c.due("needed between words", c.tell("handa;"), -1);
        c.due("its place", c.x.fault(1), 0);
        c.due("numbers apart are two", c.tell("key 1 1 2 3;"), -1);
        c.due("its place", c.x.fault(1), 10);
    }

    private static void signsBesideLetters() {
        Case c = new Case("signs");
        for (char sign : new char[] {'`', '{', 'A', 'Z', '/', ':', '<', '_', '-', '+', '.', ','}) {
            c.faulty("hand " + sign + ";", 1, 5);
            c.faulty("hand a" + sign + ";", 1, 6);
        }
        c.faulty("key -1 1 1;", 1, 4);
        c.faulty("key 1.5 1 1;", 1, 5);
        c.due("a and z", c.tell("hand az;"), 1);
        c.due("0 and 9", c.tell("key 90 9 90;"), 1);
    }

    /** "W: one of 1 .. 6 letters, none of those of the language" */
    private static void names() {
        Case c = new Case("names");
        c.due("one letter", c.tell("hand z;"), 1);
        c.due("six", c.tell("hand zyxwvu;open zyxwvu;"), 2);
        c.faulty("hand zyxwvut;", 1, 5);
        c.faulty("hand zyxwvu;open zyxwvut;", 1, 17);
        for (String word : "hand key open scan seek grab set put cut end quit".split(" ")) {
            c.faulty("hand " + word + ";", 1, 5);
            c.faulty("open " + word + ";", 1, 5);
            c.due("more letters than " + word, c.tell("hand " + word + "s;"), 1);
            c.due("fewer letters than " + word, c.tell("hand " + word.substring(1) + ";"), 1);
            c.faulty(word + "s a;", 1, 0);
        }
    }

    /** "two N tell a KEY: 0 .. 99999999 and 1 .. 9999, a VALUE 0 .. 9999" */
    private static void numbersByPlace() {
        String[] heads = {"key", "hand a;scan a", "hand a;seek a", "hand a;grab a", "hand a;set a", "hand a;put a", "hand a;cut a"};
        String[] kinds = {"nds", "ndnd", "nd", "nd", "nds", "nds", "nd"};
        for (int i = 0; i < heads.length; i++) {
            for (int at = 0; at < kinds[i].length(); at++) {
                char kind = kinds[i].charAt(at);
                int most = kind == 'n' ? 99999999 : 9999;
                oneNumber(heads[i], kinds[i].length(), at, kind == 'd' ? 1 : 0, true);
                oneNumber(heads[i], kinds[i].length(), at, most, true);
                oneNumber(heads[i], kinds[i].length(), at, most + 1, false);
                if (kind == 'd') {
                    oneNumber(heads[i], kinds[i].length(), at, 0, false);
                }
            }
        }
    }

    /** One LINE with a number at one of its N; the others are such that no scan is turned. */
    private static void oneNumber(String head, int many, int at, int number, boolean right) {
        StringBuilder s = new StringBuilder(head);
        int place = 0;
        for (int i = 0; i < many; i++) {
            s.append(' ');
            place = i == at ? s.length() : place;
            int other = many == 4 && i == 0 ? 0 : many == 4 && i == 2 ? 99999999 : 1;
            s.append(i == at ? number : other);
        }
        s.append(';');
        Case c = new Case("numbers");
        if (right) {
            c.due("text of '" + s + "'", c.tell(s.toString()), head.equals("key") ? 1 : 2);
        } else {
            c.faulty(s.toString(), 2, place);
        }
    }

    private static void longNumbers() {
        Case c = new Case("long numbers");
        c.due("noughts ahead", c.tell("key 00000000000000000000005 0000000000001 000000000000009999;"), 1);
        c.due("the KEY", c.key(0, 0), Case.bits(5f));
        c.due("the VALUE", c.key(0, 1), 9999);
        for (String far : new String[] {"4294967296", "4294967297", "2147483648", "18446744073709551617", "1000000000", "9999999999"}) {
            c.faulty("key " + far + " 1 1;", 2, 4);
            c.faulty("key 1 " + far + " 1;", 2, 6);
            c.faulty("key 1 1 " + far + ";", 2, 8);
        }
        c.faulty("key " + "9".repeat(600) + " 1 1;", 2, 4);
    }

    /** "(the length, if more must come)" */
    private static void cutShort() {
        String[] lines = {"hand b;", "key 1 1 1;", "open a;", "scan a 1 1 2 1;", "seek a 1 1;", "grab a 1 1;", "set a 1 1 1;",
            "put a 1 1 1;", "cut a 1 1;", "end a;", "quit a;"};
        for (String line : lines) {
            for (int n = line.indexOf(' '); n < line.length(); n++) {
                Case c = new Case("cut short");
                c.feedAll("hand a;" + line);
                c.due("text of '" + line.substring(0, n) + "'", c.x.text(7 + n), -1);
                c.due("FAULT", c.x.fault(0), 1);
                c.due("the length", c.x.fault(1), 7 + n);
            }
            Case c = new Case("whole");
            c.due(line, c.tell("hand a;" + line), 2);
        }
        Case c = new Case("blanks count");
        c.faulty("key 1 1 \n \n", 1, 11);
        c.faulty("hand a;open", 1, 11);
        c.faulty("hand a;op", 1, 7);
    }

    /** "a sixth hand, a 17th key, a 25th STEP (at the word of the LINE)" */
    private static void tooManyLines() {
        StringBuilder keys = new StringBuilder();
        for (int i = 1; i <= 16; i++) {
            keys.append("key ").append(i).append(" 1 1;");
        }
        String hands = "hand a;hand b;hand c;hand d;hand e;";
        String steps = "end a;".repeat(24);
        Case c = new Case("too many");
        c.due("as many as may be", c.tell(hands + keys + steps), 45);
        c.due("HANDS", c.x.count(0), 5);
        c.due("KEYS", c.x.count(1), 16);
        c.due("STEPS", c.x.count(2), 24);
        c.faulty(hands + "hand f;", 2, 35);
        c.faulty(hands + "hand a;", 2, 35);
        c.faulty(hands + "\nhand 5;", 2, 36);
        c.faulty(keys + "key 17 1 1;", 2, keys.length());
        c.faulty(keys + "key 1 1 1;", 2, keys.length());
        c.faulty(keys + " key", 2, keys.length() + 1);
        for (String word : "open scan seek grab set put cut end quit".split(" ")) {
            c.faulty("hand a;" + steps + word + " q;", 2, 151);
        }
        c.faulty("hand a;" + steps.substring(6) + "open q;", 4, 150);
        c.due("numbered together", c.tell("hand a;hand b;" + "open a;end b;".repeat(12)), 26);
        c.faulty("hand a;hand b;" + "open a;end b;".repeat(12) + "cut b 1 1;", 2, 170);
    }

    /** "the first along the text (of one place the least)" */
    private static void firstAlongTheText() {
        Case c = new Case("the first");
        c.faulty("open a;hand hand;", 4, 5);
        c.faulty("hand a;hand a;open b;", 3, 12);
        c.faulty("hand a;hand a", 3, 12);
        c.faulty("hand a;hand a b;", 3, 12);
        c.faulty("hand a;seek b 100000000 1;", 4, 12);
        c.faulty("hand a;seek b;", 4, 12);
        c.faulty("hand a;scan a 2 1 1 1 1;", 5, 18);
        c.faulty("hand a;scan a 2 1 1 10000;", 2, 20);
        c.faulty("hand a;scan a 2 1 1;", 1, 19);
        c.faulty("hand a;scan a 2 1 100000000 1;", 2, 18);
        c.faulty("key 1 1 1;key 1 1 10000;", 3, 14);
        c.faulty("key 1 1 1;key 1 1 x;", 3, 14);
        c.faulty("key 1 1 1;key 1 x;", 1, 16);
        c.faulty("key 1 1 1;key 100000000 1 1;", 2, 14);
        c.faulty("key 1 1 1;key 1 10000 1;", 2, 16);
    }

    /** "a scan, its four N told rightly, whose first KEY is greater than its second (at its third N)" */
    private static void scansTurned() {
        Case c = new Case("turned");
        c.due("alike", c.tell("hand a;scan a 1 1 1 1;"), 2);
        c.due("alike by floats", c.tell("hand a;scan a 99999999 1 99999998 1;"), 2);
        c.due("0 to 0", c.tell("hand a;scan a 0 1 0 9999;"), 2);
        c.faulty("hand a;scan a 1 9999 0 1;", 5, 21);
        c.faulty("hand a;scan a 16777218 1 16777216 1;", 5, 25);
        c.faulty("hand a;scan a 1 2 1 3;", 5, 18);
        c.due("by KEYS, not by numbers", c.tell("hand a;scan a 100 9999 2 1;"), 2);
    }

    /** "KEYS told otherwise that are the same float are one" */
    private static void sameFloats() {
        Case c = new Case("same floats");
        c.faulty("key 1 3 1;key 3333 9999 1;", 3, 14);
        c.faulty("key 0 1 1;key 0 9999 1;", 3, 14);
        c.faulty("key 99999999 1 1;key 99999997 1 1;", 3, 21);
        c.due("the next float", c.tell("key 99999999 1 1;key 99999992 1 1;"), 2);
        c.due("ties go to the even one", c.tell("key 16777217 1 1;"), 1);
        c.due("below", c.key(0, 0), Case.bits(16777216f));
        c.due("ties go to the even one", c.tell("key 16777219 1 1;"), 1);
        c.due("above", c.key(0, 0), Case.bits(16777220f));
        c.due("the first N is a float first", c.tell("key 16777217 3 1;"), 1);
        c.due("then it is divided", c.key(0, 0), Case.bits(16777216f / 3f));
    }

    /** "5 bits each (a is 1; the first one highest of six, 0 behind the last one)" */
    private static void namedByLetters() {
        Case c = new Case("named", "hand a;hand z;hand aa;hand azazaz;hand zzzzz;", 5);
        c.due("a", c.x.named(1 << 25), 0);
        c.due("z", c.x.named(26 << 25), 1);
        c.due("aa", c.x.named(1 << 25 | 1 << 20), 2);
        c.due("azazaz", c.x.named(1 << 25 | 26 << 20 | 1 << 15 | 26 << 10 | 1 << 5 | 26), 3);
        c.due("zzzzz", c.x.named(26 << 25 | 26 << 20 | 26 << 15 | 26 << 10 | 26 << 5), 4);
        for (int none : new int[] {0, 1, -1, LEAST, MOST, 1 << 20, 1 << 25 | 1, 1 << 25 | 1 << 15, 27 << 25, 1 << 25 | 1 << 30,
            1 << 25 | 1 << 31, 1 << 25 | 1 << 20 | 1}) {
            c.due("none by " + none, c.x.named(none), -1);
        }
    }
}
