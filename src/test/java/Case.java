/** One object under test, with short ways to tell it a TEXT and to say what is due. */
final class Case {
    private static int wrong = 0;
    private static int asked = 0;

    final GapLocks x = new GapLocks();
    private final String name;

    Case(String name) {
        this.name = name;
    }

    Case(String name, String text, int lines) {
        this(name);
        due("text", tell(text), lines);
    }

    /** Feeds a text, blanks behind it, and has it read: what text() answered. */
    int tell(String text) {
        return x.text(feedAll(text));
    }

    int feedAll(String text) {
        byte[] bytes = new byte[(text.length() + 19) / 20 * 20];
        java.util.Arrays.fill(bytes, (byte) 32);
        for (int i = 0; i < text.length(); i++) {
            bytes[i] = (byte) text.charAt(i);
        }
        for (int i = 0; i < bytes.length; i += 20) {
            x.feed(number(bytes, i), number(bytes, i + 4), number(bytes, i + 8), number(bytes, i + 12), number(bytes, i + 16));
        }
        return text.length();
    }

    static int number(byte[] bytes, int at) {
        return (bytes[at] & 255) << 24 | (bytes[at + 1] & 255) << 16 | (bytes[at + 2] & 255) << 8 | bytes[at + 3] & 255;
    }

    void due(String what, long got, long want) {
        asked++;
        if (got != want) {
            wrong++;
            System.out.println(name + ": " + what + " answered " + got + ", due is " + want);
        }
    }

    /** A TEXT with a FAULT. */
    void faulty(String text, int fault, int place) {
        due("text of '" + text + "'", tell(text), GapLocks.NONE);
        due("fault(0) of '" + text + "'", x.fault(0), fault);
        due("fault(1) of '" + text + "'", x.fault(1), place);
    }

    /** What key() answers; Long.MIN_VALUE and one more for the two exceptions. */
    long key(int place, int what) {
        try {
            return x.key(place, what);
        } catch (IndexOutOfBoundsException e) {
            return NO_PLACE;
        } catch (java.util.NoSuchElementException e) {
            return NO_WHAT;
        }
    }

    static final long NO_PLACE = Long.MIN_VALUE;
    static final long NO_WHAT = Long.MIN_VALUE + 1;

    static int bits(float f) {
        return Float.floatToIntBits(f);
    }

    static void finish() {
        System.out.println(wrong == 0 ? asked + " answers are as due" : wrong + " of " + asked + " answers are not as due");
        if (wrong != 0) {
            System.exit(1);
        }
    }
}
