import java.lang.reflect.InvocationTargetException;
import java.lang.reflect.Method;
import java.util.TreeMap;

/** LANGUAGE.md, rules 6 and 7: whatever is asked in whatever state, nothing is thrown but by key() as the document says. */
final class WildTest {
    private static final int[] WILD = {
        Integer.MIN_VALUE, -32, -2, -1, 0, 1, 2, 4, 5, 23, 24, 25, 31, 32, 700, 9999, 10000, 10001, 99999999, 100000000, 999999999,
        1000000000, Integer.MAX_VALUE};
    private static final String[] TEXTS = {
        "",
        "hand a;",
        "key 0 1 0;",
        "hand a;hand b;hand c;hand d;hand e;key 0 1 5;key 1 1 6;key 2 1 7;open a;open b;open c;grab a 1 1;grab b 2 1;scan c 0 1 2 1;"
            + "grab b 1 1;cut a 0 1;put a 3 1 4;end b;put d 1 1 1;open d;seek d 5 1;put e 6 1 1;open e;put e 6 1 1;end a;"};

    public static void main(String[] args) throws Exception {
        TreeMap<String, Method> methods = new TreeMap<>();
        for (Method m : GapLocks.class.getDeclaredMethods()) {
            if (java.lang.reflect.Modifier.isPublic(m.getModifiers())) {
                methods.put(m.getName(), m);
            }
        }
        for (String text : TEXTS) {
            for (Method m : methods.values()) {
                for (int steps : new int[] {0, 9, 24}) {
                    wild(m, text, steps);
                }
            }
        }
        fullOfAll(methods);
        Case.finish();
    }

    private static void wild(Method m, String text, int steps) throws Exception {
        Case c = new Case("wild");
        c.tell(text);
        c.x.run(steps);
        c.x.take();
        callAll(c, m);
    }

    /** Of all numbers, or of some by turns where there would be too many calls. */
    private static void callAll(Case c, Method m) throws Exception {
        int many = m.getParameterCount();
        long all = 1;
        for (int i = 0; i < many; i++) {
            all *= WILD.length;
        }
        long by = all > 20000 ? 1 + all / 20000 | 1 : 1;
        for (long at = 0; at < all; at += by) {
            Object[] numbers = new Object[many];
            long left = at;
            for (int i = 0; i < many; i++) {
                numbers[i] = WILD[(int) (left % WILD.length)];
                left /= WILD.length;
            }
            call(c, m, numbers);
        }
    }

    private static void call(Case c, Method m, Object[] numbers) throws Exception {
        String thrown = "";
        try {
            m.invoke(c.x, numbers);
        } catch (InvocationTargetException e) {
            thrown = e.getCause().getClass().getName();
        }
        boolean right = thrown.isEmpty() || m.getName().equals("key")
            && (thrown.equals("java.lang.IndexOutOfBoundsException") || thrown.equals("java.util.NoSuchElementException"));
        if (!right) {
            c.due(m.getName() + java.util.Arrays.toString(numbers) + " throws " + thrown, 1, 0);
        }
    }

    /** 5 HANDS, 24 KEYS, 24 STEPS, 16 SNAPSHOTS, a full TAPE. */
    private static void fullOfAll(TreeMap<String, Method> methods) throws Exception {
        StringBuilder s = new StringBuilder("hand a;hand b;hand c;hand d;hand e;");
        for (int i = 0; i < 16; i++) {
            s.append("key ").append(i).append(" 1 ").append(i).append(';');
        }
        s.append("open a;open b;open c;open d;open e;");
        for (int i = 0; i < 8; i++) {
            s.append("put a ").append(20 + i).append(" 1 1;");
        }
        s.append("seek b 29 1;seek c 5 1;scan d 0 1 99 1;grab c 20 1;put e 20 1 1;put b 90 1 1;cut a 26 1;cut a 27 1;");
        s.append("seek b 20 1;end c;end d;");
        for (Method m : methods.values()) {
            Case c = new Case("full of all", s.toString(), 45);
            c.x.run(24);
            c.due("24 KEYS", c.x.count(1), 24);
            for (int i = 0; i < 16; i++) {
                c.x.take();
            }
            for (int i = 0; i < 35; i++) {
                c.x.feed(0, 0, 0, 0, 0);
            }
            callAll(c, m);
        }
    }
}
