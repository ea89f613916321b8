import java.lang.reflect.InvocationTargetException;
import java.lang.reflect.Method;
import java.util.ArrayList;
import java.util.Arrays;
import java.util.List;
import java.util.Random;
import java.util.TreeMap;

/** All promises: runs of calls by chance (the same ones each time), the class held against Model. */
final class FuzzTest {
    private static final String[] ACTS = {
        "open", "scan", "seek", "grab", "set", "put", "cut", "end", "quit", "putNext", "run", "take", "back"};
    private static final int[] WEIGHTS = {12, 8, 8, 7, 7, 12, 7, 5, 2, 2, 2, 1, 1};
    private static final String[] ASKS = {
        "fault", "named", "key", "bits", "place", "width", "sum", "widest", "lock", "hand", "queue", "stops", "ring",
        "free", "outcome", "answer", "held", "range", "phantoms", "between", "mean", "ratio", "wakes", "loses",
        "nearest", "count"};
    private static final String[] TRIALS = {"same", "chance", "tried", "culprit", "swapped", "fate", "sameOrder"};

    private final Random random;
    private final TreeMap<String, Method> methods = new TreeMap<>();
    private GapLocks x;
    private Model model;
    private final List<String> told = new ArrayList<>();
    private int wrong;

    private FuzzTest(long seed) {
        random = new Random(seed);
        for (Method m : GapLocks.class.getDeclaredMethods()) {
            methods.put(m.getName(), m);
        }
    }

    public static void main(String[] args) throws Exception {
        int runs = args.length > 0 ? Integer.parseInt(args[0]) : 400;
        long seed = args.length > 1 ? Long.parseLong(args[1]) : 1;
        FuzzTest f = new FuzzTest(seed);
        for (int i = 0; i < runs && f.wrong == 0; i++) {
            f.oneRun();
        }
        for (int i = 0; i < 20 && f.wrong == 0; i++) {
            f.farBeyond();
        }
        System.out.println(f.wrong == 0 ? runs + " runs are as due" : "a run is not as due");
        if (f.wrong != 0) {
            System.exit(1);
        }
    }

    private void oneRun() throws Exception {
        x = new GapLocks();
        model = new Model();
        told.clear();
        int left = 500;
        while (left > 0 && wrong == 0) {
            left -= tell(random.nextInt(4) == 0 ? spoilt(script()) : script());
            for (int trial = random.nextInt(4) == 0 ? 14 : 0; trial > 0 && left > 0; trial--) {
                one(TRIALS[random.nextInt(TRIALS.length)]);
                left--;
            }
            for (int calls = random.nextInt(300); calls > 0 && left > 0 && wrong == 0; calls--) {
                boolean ask = random.nextInt(2) == 0;
                one(ask ? ASKS[random.nextInt(ASKS.length)] : weighted());
                left--;
            }
        }
    }

    /** What is answered behind the 512th call is free, but nothing may be thrown. */
    private void farBeyond() throws Exception {
        oneRun();
        model = null;
        tell(script());
        for (int i = 0; i < 5000; i++) {
            one(random.nextInt(2) == 0 ? ASKS[random.nextInt(ASKS.length)] : random.nextInt(2) == 0 ? "set" : weighted());
        }
    }

    private String weighted() {
        int all = Arrays.stream(WEIGHTS).sum();
        int at = random.nextInt(all);
        for (int i = 0; i < ACTS.length; i++) {
            at -= WEIGHTS[i];
            if (at < 0) {
                return ACTS[i];
            }
        }
        return ACTS[0];
    }

    /** KEYS are told from few numbers, so that HANDS meet. */
    private String two() {
        return (1 + random.nextInt(reach)) + " " + (random.nextInt(8) == 0 ? 2 : 1);
    }

    private int reach = 6;

    private String script() {
        reach = random.nextInt(5) == 0 ? 30 : 3 + random.nextInt(6);
        StringBuilder s = new StringBuilder();
        int hands = random.nextInt(8) == 0 ? random.nextInt(3) : 2 + random.nextInt(4);
        for (int i = 0; i < hands; i++) {
            s.append("hand ").append((char) ('a' + i)).append(random.nextInt(9) == 0 ? "zyxwv;" : ";");
        }
        List<Integer> keys = new ArrayList<>();
        for (int i = 1; i <= reach; i++) {
            keys.add(i);
        }
        java.util.Collections.shuffle(keys, random);
        int many = Math.min(16, random.nextInt(reach + 1));
        for (int i = 0; i < many; i++) {
            s.append("key ").append(keys.get(i)).append(" 1 ").append(random.nextInt(10)).append(';');
        }
        if (random.nextInt(10) == 0) {
            s.append("key 0 7 5;");
        }
        String names = s.toString();
        for (int i = 0; i < 24 && hands > 0 && s.length() < 670 && random.nextInt(40) > 0; i++) {
            int hand = random.nextInt(hands);
            char first = (char) ('a' + hand);
            String name = names.contains("hand " + first + "zyxwv") ? first + "zyxwv" : "" + first;
            s.append(step(i < hands * 2 && random.nextInt(2) == 0 ? 0 : random.nextInt(14), name)).append(';');
        }
        return s.toString();
    }

    private String step(int kind, String name) {
        switch (kind) {
            case 0:
            case 9:
                return "open " + name;
            case 1: {
                int a = 1 + random.nextInt(reach);
                return "scan " + name + " " + a + " 1 " + (a + random.nextInt(3)) + " 1";
            }
            case 2:
                return "seek " + name + " " + two();
            case 3:
            case 10:
                return "grab " + name + " " + two();
            case 4:
            case 11:
                return "set " + name + " " + two() + " " + random.nextInt(10);
            case 5:
            case 12:
                return "put " + name + " " + two() + " " + random.nextInt(10);
            case 6:
                return "cut " + name + " " + two();
            case 7:
            case 13:
                return "end " + name;
            default:
                return "quit " + name;
        }
    }

    /** A text with one thing or two wrong, most often. */
    private String spoilt(String text) {
        StringBuilder s = new StringBuilder(text);
        String[] parts = {";", " ", "a", "hand ", "key 1 1 1;", "key 2 2 3;", "open b;", "9", "0", "10000", "99999999999", "\n", "$",
            "" + (char) 233, "scan a 3 1 2 1;", "abcdefg", "quit", " 1", "hand f;hand g;hand h;"};
        for (int i = 1 + random.nextInt(2); i > 0; i--) {
            int at = random.nextInt(s.length() + 1);
            int to = Math.min(s.length(), at + random.nextInt(4));
            if (random.nextInt(2) == 0) {
                s.delete(at, to);
            } else {
                s.insert(at, parts[random.nextInt(parts.length)]);
            }
        }
        return s.length() > 700 ? s.substring(0, 700) : s.toString();
    }

    private int tell(String text) throws Exception {
        byte[] bytes = Arrays.copyOf(text.getBytes("ISO-8859-1"), (text.length() + 19) / 20 * 20);
        int calls = 1;
        for (int i = 0; i < bytes.length; i += 20, calls++) {
            check("feed", Case.number(bytes, i), Case.number(bytes, i + 4), Case.number(bytes, i + 8),
                Case.number(bytes, i + 12), Case.number(bytes, i + 16));
        }
        int n = text.length() + (random.nextInt(20) == 0 ? random.nextInt(40) - 20 : 0);
        check("text", n);
        if (wrong > 0) {
            System.out.println("the text was " + text);
        }
        return calls + 1;
    }

    private int small(int most) {
        return random.nextInt(40) == 0 ? random.nextInt(most + 8) - 4 : random.nextInt(Math.max(1, most));
    }

    private int number(int most) {
        int[] far = {-1, Integer.MIN_VALUE, Integer.MAX_VALUE, 0, 9999, 10000, 99999999, 100000000};
        return random.nextInt(60) == 0 ? far[random.nextInt(far.length)] : 1 + random.nextInt(most);
    }

    private int packed() {
        int n = random.nextInt(reach + 1);
        return random.nextInt(60) == 0 ? number(9) : n * 10000 + (random.nextInt(8) == 0 ? 2 : 1);
    }

    private int second() {
        return random.nextInt(60) == 0 ? number(9) : random.nextInt(8) == 0 ? 2 : 1;
    }

    private void one(String name) throws Exception {
        switch (name) {
            case "open": case "end": case "quit": case "outcome": case "wakes": case "loses":
                check(name, small(5));
                break;
            case "scan": case "phantoms":
                check(name, small(5), packed(), packed());
                break;
            case "seek": case "grab": case "cut":
                check(name, small(5), number(reach), second());
                break;
            case "set": case "put":
                check(name, small(5), number(reach), second(), random.nextInt(60) == 0 ? number(9) : random.nextInt(10));
                break;
            case "putNext":
                check(name, small(5), small(24), random.nextInt(10));
                break;
            case "stops":
                check(name, small(5), number(reach), second(), small(3));
                break;
            case "bits": case "place": case "nearest":
                check(name, random.nextInt(4) == 0 ? random.nextInt(100000000) : number(reach),
                    random.nextInt(4) == 0 ? 1 + random.nextInt(9999) : second());
                break;
            case "range":
                check(name, packed(), packed(), small(3));
                break;
            case "lock":
                check(name, small(5), small(12), small(2));
                break;
            case "run":
                check(name, random.nextInt(40) == 0 ? small(30) : random.nextInt(5));
                break;
            case "key": case "ratio": case "width":
                check(name, small(12), name.equals("ratio") ? small(12) : small(4));
                break;
            case "hand":
                check(name, small(5), small(5));
                break;
            case "ring":
                check(name, small(5), small(5));
                break;
            case "held":
                check(name, small(5), small(10));
                break;
            case "tried": {
                int what = small(5);
                check(name, what, what == 2 || random.nextInt(20) == 0 ? small(5) : 0);
                break;
            }
            case "fate":
                check(name, number(1000000), small(5));
                break;
            case "chance":
                check(name, random.nextInt(4) == 0 ? random.nextInt() : number(1000));
                break;
            case "named":
                check(name, random.nextInt(10) == 0 ? random.nextInt() : 1 + random.nextInt(6) << 25);
                break;
            case "queue": case "sameOrder":
                check(name, small(5));
                break;
            case "fault": case "between": case "answer": case "swapped": case "count":
                check(name, small(name.equals("fault") ? 3 : name.equals("between") ? 12 : name.equals("count") ? 12 : 24));
                break;
            default:
                check(name);
                break;
        }
    }

    private void check(String name, int... a) throws Exception {
        if (wrong > 0) {
            return;
        }
        Object want = model == null ? null : model.call(name, a);
        Object got;
        Object[] boxed = Arrays.stream(a).boxed().toArray();
        try {
            got = methods.get(name).invoke(x, boxed);
        } catch (InvocationTargetException e) {
            got = e.getCause().getClass().getName();
        }
        told.add(name + Arrays.toString(a) + " = " + got);
        boolean right = want == null ? got instanceof Integer || name.equals("key") : want.equals(got);
        if (!right) {
            wrong++;
            System.out.println(name + Arrays.toString(a) + " answered " + got + ", due is " + want + "; calls:");
            told.forEach(System.out::println);
        }
    }
}
