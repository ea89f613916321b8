/** Promises 6 to 11, 34, 36, 38, 39, 45: KEYS as floats, their widths, sums, ratios. */
final class KeysTest {
    public static void main(String[] args) {
        key();
        bits();
        place();
        widths();
        sums();
        between();
        ratio();
        nearest();
        range();
        tinyKeys();
        Case.finish();
    }

    private static void key() {
        Case c = new Case("key", "hand a;hand b;key 10 1 100;key 1 3 200;key 20 1 300;", 5);
        c.due("bits", c.key(0, 0), Case.bits(1f / 3f));
        c.due("bits", c.key(2, 0), Case.bits(20f));
        c.due("value", c.key(1, 1), 100);
        c.due("cut by none", c.key(1, 2), -2);
        c.due("put by none", c.key(1, 3), -2);
        c.due("no such place", c.key(3, 0), Case.NO_PLACE);
        c.due("no such place", c.key(-1, 0), Case.NO_PLACE);
        c.due("no such place first", c.key(3, 4), Case.NO_PLACE);
        c.due("no such what", c.key(2, 4), Case.NO_WHAT);
        c.due("no such what", c.key(2, -1), Case.NO_WHAT);
        c.x.open(1);
        c.x.put(1, 15, 1, 5);
        c.x.cut(1, 10, 1);
        c.due("put by b", c.key(2, 3), 1);
        c.due("cut by b", c.key(1, 2), 1);
        c.x.open(0);
        c.x.seek(0, 11, 1);
        c.x.put(1, 12, 1, 1);
        c.due("put by one that WAITS", c.key(2, 3), 1);
        c.x.end(0);
        c.due("put when let on", c.key(2, 0), Case.bits(12f));
        c.x.end(1);
        c.due("put by none that is OPEN", c.key(2, 3), -2);
        c.x.open(1);
        c.due("nor when it is OPEN again", c.key(2, 3), -2);
        c.x.open(0);
        c.x.put(0, 50, 1, 1);
        c.x.put(1, 60, 1, 1);
        c.x.put(0, 70, 1, 1);
        c.x.quit(0);
        c.due("goes with its KEY", c.key(c.x.place(60, 1), 3), 1);
        c.x.quit(1);
        c.due("all put went", c.x.place(99, 1), 4);
    }

    private static void bits() {
        Case c = new Case("bits");
        int[] n = {0, 1, 2, 3, 7, 10, 99, 16777215, 16777216, 16777217, 16777219, 33554431, 33554435, 99999999, 12345678};
        int[] d = {1, 2, 3, 7, 10, 97, 1000, 4096, 9999};
        for (int one : n) {
            for (int other : d) {
                c.due("bits(" + one + ", " + other + ")", c.x.bits(one, other), Case.bits((float) one / (float) other));
            }
        }
        c.due("below 0", c.x.bits(-1, 1), -1);
        c.due("too much", c.x.bits(100000000, 1), -1);
        c.due("by 0", c.x.bits(1, 0), -1);
        c.due("by too much", c.x.bits(1, 10000), -1);
        c.due("by less", c.x.bits(1, -1), -1);
    }

    private static void place() {
        Case c = new Case("place", "key 10 1 1;key 20 1 2;key 16777216 1 3;", 3);
        c.due("first", c.x.place(0, 1), 0);
        c.due("alike", c.x.place(20, 2), 0);
        c.due("more", c.x.place(21, 2), 1);
        c.due("same float", c.x.place(16777217, 1), 2);
        c.due("END", c.x.place(16777218, 1), 3);
        c.due("no such", c.x.place(1, 0), -1);
        c.due("no such", c.x.place(-1, 1), -1);
    }

    private static void widths() {
        Case c = new Case("width", "key 1 3 1;key 2 3 2;key 16777216 1 3;key 33554430 1 3;", 4);
        float third = 1f / 3f;
        float two = 2f / 3f;
        c.due("first", c.x.width(0, 0), Case.bits(third));
        c.due("next", c.x.width(1, 0), Case.bits(two - third));
        c.due("rounded", c.x.width(2, 0), Case.bits(16777216f - two));
        c.due("middle", c.x.width(0, 1), Case.bits(third / 2f));
        c.due("middle", c.x.width(1, 1), Case.bits((third + two) / 2f));
        c.due("middle, the sum rounded", c.x.width(3, 1), Case.bits((16777216f + 33554430f) / 2f));
        c.due("no such", c.x.width(4, 0), -1);
        c.due("no such", c.x.width(-1, 0), -1);
        c.due("no such", c.x.width(0, 2), -1);
        c.due("no such", c.x.width(0, -1), -1);
        c.due("widest, the first of two", c.x.widest(), 2);
        Case e = new Case("widest", "key 0 1 1;", 1);
        c.due("nought alone", e.x.widest(), 0);
        c.due("its width", e.x.width(0, 0), 0);
        Case f = new Case("widest", "key 5 1 1;key 8 1 1;key 14 1 1;key 20 1 1;", 4);
        c.due("the first of two", f.x.widest(), 2);
        c.due("none", new Case("widest").x.widest(), -2);
    }

    private static void sums() {
        Case c = new Case("sum", "key 33554432 1 1;key 1 1 1;key 3 1 3;key 2 1 2;", 4);
        c.due("from the least on", c.x.sum(), Case.bits(((1f + 2f) + 3f) + 33554432f));
        c.due("mean", c.x.mean(), Case.bits((((1f + 2f) + 3f) + 33554432f) / 4f));
        Case e = new Case("sum", "key 16777216 1 1;key 33554430 1 1;key 99999999 3 1;key 1 1 1;key 1 3 1;", 5);
        float t = (((1f / 3f + 1f) + 16777216f) + 99999999f / 3f) + 33554430f;
        c.due("rounded each time", e.x.sum(), Case.bits(t));
        c.due("mean", e.x.mean(), Case.bits(t / 5f));
        c.due("no keys", new Case("sum").x.sum(), 0);
        c.due("no keys", new Case("sum").x.mean(), -2);
        c.due("nought", new Case("sum", "key 0 1 1;", 1).x.mean(), 0);
    }

    private static void between() {
        Case c = new Case("between", "hand a;key 0 1 1;key 1 1 1;key 2 1 1;", 4);
        c.due("nought", c.x.between(0), 0);
        c.due("from nought", c.x.between(1), Case.bits(1f) - 1);
        c.due("a power of two", c.x.between(2), 8388607);
        c.due("END", c.x.between(3), -1);
        c.due("below", c.x.between(-1), -1);
        c.x.open(0);
        c.due("putNext", c.x.putNext(0, 1, 3), 4);
        c.due("next", c.x.between(2), 0);
        c.due("first", new Case("between", "key 1 3 1;", 1).x.between(0), Case.bits(1f / 3f) - 1);
    }

    private static void ratio() {
        Case c = new Case("ratio", "key 0 1 1;key 1 3 1;key 7 1 1;", 3);
        c.due("by", c.x.ratio(1, 2), Case.bits(1f / 3f / 7f));
        c.due("by", c.x.ratio(2, 1), Case.bits(7f / (1f / 3f)));
        c.due("nought by", c.x.ratio(0, 1), 0);
        c.due("by nought", c.x.ratio(1, 0), -2);
        c.due("nought by nought", c.x.ratio(0, 0), -2);
        c.due("itself", c.x.ratio(2, 2), Case.bits(1f));
        c.due("no such", c.x.ratio(3, 0), -1);
        c.due("no such", c.x.ratio(0, 3), -1);
        c.due("no such", c.x.ratio(-1, 0), -1);
        c.due("no such", c.x.ratio(0, -1), -1);
    }

    private static void nearest() {
        Case c = new Case("nearest", "key 10 1 1;key 20 1 1;key 40 1 1;", 3);
        c.due("below all", c.x.nearest(0, 1), 0);
        c.due("the first of two", c.x.nearest(15, 1), 0);
        c.due("nearer", c.x.nearest(16, 1), 1);
        c.due("the first of two", c.x.nearest(30, 1), 1);
        c.due("above all, by floats", c.x.nearest(99999999, 1), 2);
        Case e = new Case("nearest", "key 1 1 1;key 2 1 1;key 3 1 1;", 3);
        c.due("alike, as floats are taken", e.x.nearest(99999999, 1), 0);
        c.due("above", c.x.nearest(50, 1), 2);
        c.due("no such", c.x.nearest(1, 0), -1);
        c.due("none", new Case("nearest").x.nearest(1, 1), -2);
        c.due("numbers first", new Case("nearest").x.nearest(1, 0), -1);
    }

    private static void range() {
        Case c = new Case("range", "hand a;hand b;key 10 1 5;key 20 1 7;key 40 1 9;", 5);
        c.due("how many", c.x.range(100001, 200001, 0), 2);
        c.due("none", c.x.range(110001, 190001, 0), 0);
        c.due("one", c.x.range(200001, 200001, 0), 1);
        c.due("values", c.x.range(1, 999990001, 1), 21);
        c.due("cut", c.x.range(1, 999990001, 2), 0);
        c.x.open(0);
        c.x.cut(0, 20, 1);
        c.due("cut", c.x.range(1, 999990001, 2), 1);
        c.due("cut ones are there", c.x.range(1, 999990001, 0), 3);
        c.due("with their values", c.x.range(1, 999990001, 1), 21);
        c.due("not in it", c.x.range(1, 100001, 2), 0);
        c.due("turned", c.x.range(200001, 100001, 0), -1);
        c.due("greater as a float", c.x.range(10001, 10002, 0), -1);
        c.due("second number 0", c.x.range(10000, 100001, 0), -1);
        c.due("second number 0", c.x.range(1, 20000, 0), -1);
        c.due("too great", c.x.range(1, 1000000001, 0), -1);
        c.due("below 0", c.x.range(-9999, 1, 0), -1);
        c.due("what", c.x.range(1, 10001, 3), -1);
        c.due("what", c.x.range(1, 10001, -1), -1);
    }

    /** Floats next above 0 are told in another way than all others. */
    private static void tinyKeys() {
        Case c = new Case("tiny", "hand a;key 0 1 1;key 99999999 1 2;", 3);
        c.x.open(0);
        for (int i = 0; i < 5; i++) {
            c.due("putNext", c.x.putNext(0, i, 1), 3 + i);
            c.due("bits", c.key(i + 1, 0), i + 1);
        }
        float least = Float.MIN_VALUE;
        c.due("width", c.x.width(1, 0), 1);
        c.due("middle", c.x.width(1, 1), Case.bits(least / 2f));
        c.due("middle", c.x.width(2, 1), Case.bits((least + 2 * least) / 2f));
        c.due("middle", c.x.width(3, 1), Case.bits((3 * least + 2 * least) / 2f));
        c.due("ratio", c.x.ratio(3, 2), Case.bits(1.5f));
        c.due("ratio beyond floats", c.x.ratio(6, 1), Case.bits(Float.POSITIVE_INFINITY));
        c.due("ratio", c.x.ratio(1, 6), 0);
        c.due("nearest", c.x.nearest(0, 1), 0);
        c.due("sum", c.x.sum(), Case.bits(99999999f));
        c.due("place", c.x.place(1, 9999), 6);
    }
}
