/** One object under test, with short ways to tell it a TEXT and to say what is due. */
final class Case {
    private static int wrong = 0;
    private static int asked = 0;

    final GapLocks x = new GapLocks();
    private final String name;

    Case(String name) {
        this.name = name;
    }

    Case(String name, String text, int lines) {
        this(name);
        due("text", tell(text), lines);
    }

    /** Feeds a text, blanks behind it, and has it read: what text() answered. */
    int tell(String text) {
        return x.text(feedAll(text));
    }

    int feedAll(String text) {
        byte[] bytes = new byte[(text.length() + 19) / 20 * 20];
        java.util.Arrays.fill(bytes, (byte) 32);
        for (int i = 0; i < text.length(); i++) {
            bytes[i] = (byte) text.charAt(i);
        }
        for (int i = 0; i < bytes.length; i += 20) {
            x.feed(number(bytes, i), number(bytes, i + 4), number(bytes, i + 8), number(bytes, i + 12), number(bytes, i + 16));
        }
        return text.length();
    }

    static int number(byte[] bytes, int at) {
        return (bytes[at] & 255) << 24 | (bytes[at + 1] & 255) << 16 | (bytes[at + 2] & 255) << 8 | bytes[at + 3] & 255;
    }

    void due(String what, long got, long want) {
        asked++;
        if (got != want) {
            wrong++;
            System.out.println(name + ": " + what + " answered " + got + ", due is " + want);
        }
    }

    /** A TEXT with a FAULT. */
    void faulty(String text, int fault, int place) {
        due("text of '" + text + "'", tell(text), GapLocks.NONE);
        due("fault(0) of '" + text + "'", x.fault(0), fault);
        due("fault(1) of '" + text + "'", x.fault(1), place);
    }

    /** What key() answers; Long.MIN_VALUE and one more for the two exceptions. */
    long key(int place, int what) {
        try {
            return x.key(place, what);
        } catch (IndexOutOfBoundsException e) {
            return NO_PLACE;
        } catch (java.util.NoSuchElementException e) {
            return NO_WHAT;
        }
    }

    /** Which class key() throws, by its own name (those of the machine are others); nothing, if it answers. */
    String thrownByKey(int place, int what) {
        try {
            x.key(place, what);
            return "nothing";
        } catch (RuntimeException e) {
            return e.getClass().getSimpleName();
        }
    }

    void due(String what, String got, String want) {
        due(what + " (" + got + ", due is " + want + ")", got.equals(want) ? 1 : 0, 1);
    }

    /** All that can be asked without changing anything, for a TEXT of few KEYS, to see that all stays. */
    String all() {
        StringBuilder s = new StringBuilder();
        for (int what = 0; what < 12; what++) {
            s.append("count").append(what).append('=').append(x.count(what)).append(' ');
        }
        for (int place = 0; place < x.count(1); place++) {
            for (int what = 0; what < 4; what++) {
                s.append("key").append(place).append('/').append(what).append('=').append(x.key(place, what)).append(' ');
            }
        }
        for (int hand = 0; hand < x.count(0); hand++) {
            for (int what = 0; what < 5; what++) {
                s.append("hand").append(hand).append('/').append(what).append('=').append(x.hand(hand, what)).append(' ');
            }
            s.append("outcome").append(hand).append('=').append(x.outcome(hand)).append(' ');
            for (int k = 0; k < x.hand(hand, 2); k++) {
                s.append("held").append(hand).append('/').append(k).append('=').append(x.held(hand, k)).append(' ');
            }
        }
        for (int k = 0; k < x.count(7); k++) {
            s.append("queue").append(k).append('=').append(x.queue(k)).append(' ');
        }
        for (int step = 0; step < x.count(2); step++) {
            s.append("answer").append(step).append('=').append(x.answer(step)).append(' ');
        }
        return s.append("free=").append(x.free()).toString();
    }

    static final long NO_PLACE = Long.MIN_VALUE;
    static final long NO_WHAT = Long.MIN_VALUE + 1;

    static int bits(float f) {
        return Float.floatToIntBits(f);
    }

    static void finish() {
        System.out.println(wrong == 0 ? asked + " answers are as due" : wrong + " of " + asked + " answers are not as due");
        if (wrong != 0) {
            System.exit(1);
        }
    }
}
