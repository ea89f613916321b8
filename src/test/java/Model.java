import java.util.ArrayDeque;
import java.util.ArrayList;
import java.util.Arrays;
import java.util.Deque;
import java.util.List;
import java.util.Map;
import java.util.NoSuchElementException;
import java.util.TreeMap;
import java.util.TreeSet;
import java.util.regex.Matcher;
import java.util.regex.Pattern;

/**
 * The document once more, written in another way (maps and sets, all of Java's library, SNAPSHOTS by doing all
 * calls anew), so that FuzzTest can hold both against each other.
 */
final class Model {
    private static final List<String> WORDS =
        Arrays.asList("open", "scan", "seek", "grab", "set", "put", "cut", "end", "quit", "hand", "key");
    private static final List<String> FORMS =
        Arrays.asList("W", "WKK", "WK", "WK", "WKV", "WKV", "WK", "W", "W", "W", "KV");

    record Act(int kind, int hand, float low, float high, int value) { }

    static final class Plan {
        final List<String> hands = new ArrayList<>();
        final TreeMap<Float, Integer> told = new TreeMap<>();
        final List<Act> steps = new ArrayList<>();
        int lines;
    }

    static final class Fault extends RuntimeException {
        private static final long serialVersionUID = 1;
        final int code;
        final int place;

        Fault(int code, int place) {
            this.code = code;
            this.place = place;
        }
    }

    private record Token(String text, int place) { }

    private static List<Token> tokens(String text) {
        List<Token> found = new ArrayList<>();
        Matcher m = Pattern.compile("[a-z]+|[0-9]+|[^ \\n]", Pattern.DOTALL).matcher(text);
        while (m.find()) {
            found.add(new Token(m.group(), m.start()));
        }
        found.add(new Token("", text.length()));
        return found;
    }

    static Plan read(String text) {
        Plan plan = new Plan();
        List<Token> all = tokens(text);
        int at = 0;
        while (!all.get(at).text.isEmpty()) {
            Token head = all.get(at++);
            int word = WORDS.indexOf(head.text);
            if (word < 0) {
                throw new Fault(1, head.place);
            }
            if (word == 9 && plan.hands.size() == 5 || word == 10 && plan.told.size() == 16
                || word < 9 && plan.steps.size() == 24) {
                throw new Fault(2, head.place);
            }
            int hand = 0;
            int value = 0;
            List<Float> keys = new ArrayList<>();
            for (char part : FORMS.get(word).toCharArray()) {
                Token token = all.get(at++);
                if (part == 'W') {
                    if (!token.text.matches("[a-z]{1,6}") || WORDS.contains(token.text)) {
                        throw new Fault(1, token.place);
                    }
                    hand = plan.hands.indexOf(token.text);
                    if (word == 9 && hand >= 0) {
                        throw new Fault(3, token.place);
                    }
                    if (word != 9 && hand < 0) {
                        throw new Fault(4, token.place);
                    }
                    if (word == 9) {
                        plan.hands.add(token.text);
                    }
                } else if (part == 'V') {
                    value = number(token, 0, 9999);
                } else {
                    int n = number(token, 0, 99999999);
                    int d = number(all.get(at++), 1, 9999);
                    keys.add((float) n / (float) d);
                    if (word == 10 && plan.told.containsKey(keys.get(0))) {
                        throw new Fault(3, token.place);
                    }
                    if (keys.size() == 2 && keys.get(0) > keys.get(1)) {
                        throw new Fault(5, token.place);
                    }
                }
            }
            if (!all.get(at).text.equals(";")) {
                throw new Fault(1, all.get(at).place);
            }
            at++;
            plan.lines++;
            if (word == 10) {
                plan.told.put(keys.get(0), value);
            } else if (word < 9) {
                float low = keys.isEmpty() ? 0 : keys.get(0);
                plan.steps.add(new Act(word, hand, low, keys.size() < 2 ? low : keys.get(1), value));
            }
        }
        return plan;
    }

    private static int number(Token token, int least, int most) {
        if (!token.text.matches("[0-9]+")) {
            throw new Fault(1, token.place);
        }
        java.math.BigInteger n = new java.math.BigInteger(token.text);
        if (n.bitLength() > 30 || n.intValue() < least || n.intValue() > most) {
            throw new Fault(2, token.place);
        }
        return n.intValue();
    }

    static final class Node {
        int value;
        int cut = -2;
        int put = -2;
        final TreeSet<Integer> gap = new TreeSet<>();
        final TreeSet<Integer> shared = new TreeSet<>();
        int whole = -1;
    }

    private record Need(float key, int mode) { }

    static final class Hand {
        int state;
        int outcome = -1;
        int deaths;
        Act act;
        Need need;
        final Deque<Runnable> undo = new ArrayDeque<>();
    }

    /** An INDEX with its HANDS, and the STEPS of a Plan. */
    static final class Sim {
        final Plan plan;
        final TreeMap<Float, Node> keys = new TreeMap<>();
        final Node end = new Node();
        final List<Hand> hands = new ArrayList<>();
        final List<Integer> line = new ArrayList<>();
        final List<Integer> order = new ArrayList<>();
        final TreeSet<Integer> later = new TreeSet<>();
        final int[] answers;
        int done;
        boolean gapless;
        boolean loose;
        boolean impatient;
        private Need stuck;

        Sim(Plan plan) {
            this.plan = plan;
            for (Map.Entry<Float, Integer> e : plan.told.entrySet()) {
                Node node = new Node();
                node.value = e.getValue();
                keys.put(e.getKey(), node);
            }
            for (int i = 0; i < plan.hands.size(); i++) {
                hands.add(new Hand());
            }
            answers = new int[plan.steps.size()];
            Arrays.fill(answers, -5);
            for (int i = 0; i < plan.steps.size(); i++) {
                order.add(i);
            }
        }

        Node atOrBehind(float key) {
            Map.Entry<Float, Node> e = keys.ceilingEntry(key);
            return e == null ? end : e.getValue();
        }

        Node behind(float key) {
            Map.Entry<Float, Node> e = keys.higherEntry(key);
            return e == null ? end : e.getValue();
        }

        TreeSet<Integer> stoppers(int hand, Need need) {
            TreeSet<Integer> found = new TreeSet<>();
            Node node = keys.get(need.key);
            if (need.mode == 2) {
                found.addAll(atOrBehind(need.key).gap);
            } else if (node != null && need.mode == 1) {
                found.addAll(node.shared);
            } else if (node != null && node.whole >= 0) {
                found.add(node.whole);
            }
            found.remove(hand);
            return found;
        }

        /** Whether a path of waiting leads from one HAND to another. */
        boolean leads(int from, int to, int depth) {
            if (from == to) {
                return true;
            }
            Hand h = hands.get(from);
            if (depth > 6 || h.state != 2) {
                return false;
            }
            for (int next : stoppers(from, h.need)) {
                if (leads(next, to, depth + 1)) {
                    return true;
                }
            }
            return false;
        }

        int act(Act a) {
            if (a.hand < 0 || a.hand >= hands.size()) {
                return -1;
            }
            Hand h = hands.get(a.hand);
            switch (a.kind) {
                case 0:
                    if (h.state != 0) {
                        return -1;
                    }
                    h.state = 1;
                    h.outcome = 0;
                    return 0;
                case 7:
                    if (h.state != 1) {
                        return -1;
                    }
                    for (Float key : new ArrayList<>(keys.keySet())) {
                        if (keys.get(key).cut == a.hand) {
                            vanish(key, a.hand);
                        }
                    }
                    close(a.hand, 0);
                    wake();
                    return 0;
                case 8:
                    if (h.state == 0) {
                        return -1;
                    }
                    undo(a.hand, 0);
                    wake();
                    return 0;
                default:
                    if (h.state != 1) {
                        return -1;
                    }
                    int got = attempt(a);
                    if (got == -1) {
                        return -1;
                    }
                    h.outcome = got;
                    if (got == -2) {
                        h.act = a;
                        got = waits(a.hand);
                        if (got == -3) {
                            wake();
                        }
                    }
                    return got;
            }
        }

        private int waits(int hand) {
            Hand h = hands.get(hand);
            boolean ring = impatient;
            for (int other : stoppers(hand, stuck)) {
                ring |= leads(other, hand, 0);
            }
            if (ring) {
                h.deaths++;
                undo(hand, -3);
                return -3;
            }
            h.state = 2;
            h.need = stuck;
            h.outcome = -2;
            line.add(hand);
            return -2;
        }

        private void undo(int hand, int outcome) {
            Deque<Runnable> undo = hands.get(hand).undo;
            while (!undo.isEmpty()) {
                undo.pop().run();
            }
            close(hand, outcome);
        }

        private void close(int hand, int outcome) {
            Hand h = hands.get(hand);
            h.undo.clear();
            h.state = 0;
            h.outcome = outcome;
            h.need = null;
            line.remove((Integer) hand);
            end.gap.remove(hand);
            for (Node node : keys.values()) {
                node.gap.remove(hand);
                node.shared.remove(hand);
                node.whole = node.whole == hand ? -1 : node.whole;
                node.put = node.put == hand ? -2 : node.put;
            }
        }

        private void vanish(float key, int hand) {
            Node node = keys.remove(key);
            TreeSet<Integer> heirs = new TreeSet<>(node.gap);
            heirs.addAll(node.shared);
            heirs.remove(hand);
            behind(key).gap.addAll(heirs);
        }

        private void wake() {
            boolean again = true;
            while (again) {
                again = false;
                for (int hand : new ArrayList<>(line)) {
                    Hand h = hands.get(hand);
                    int got = attempt(h.act);
                    if (got == -2 && stuck.equals(h.need)) {
                        continue;
                    }
                    line.remove((Integer) hand);
                    h.state = 1;
                    h.need = null;
                    h.outcome = got;
                    if (got == -2) {
                        waits(hand);
                    }
                    again = true;
                    break;
                }
            }
        }

        private boolean have(Act a, float key, Node node, boolean whole) {
            Need need = new Need(key, whole ? 1 : 0);
            if (!stoppers(a.hand, need).isEmpty()) {
                stuck = need;
                return false;
            }
            node.shared.add(a.hand);
            node.whole = whole ? a.hand : node.whole;
            return true;
        }

        private int attempt(Act a) {
            if (a.kind == 1) {
                int sum = 0;
                for (Map.Entry<Float, Node> e : keys.subMap(a.low, true, a.high, true).entrySet()) {
                    Node node = e.getValue();
                    if (!loose) {
                        node.gap.add(a.hand);
                        if (!have(a, e.getKey(), node, false)) {
                            return -2;
                        }
                    }
                    sum += node.cut == a.hand ? 0 : node.value;
                }
                if (!loose) {
                    behind(a.high).gap.add(a.hand);
                }
                return sum;
            }
            Node node = keys.get(a.low);
            if (a.kind == 5) {
                return put(a, node);
            }
            boolean locks = !(loose && a.kind == 2);
            if (node == null) {
                if (locks) {
                    behind(a.low).gap.add(a.hand);
                }
                return -4;
            }
            if (locks && !have(a, a.low, node, a.kind != 2)) {
                return -2;
            }
            if (node.cut == a.hand) {
                return -4;
            }
            int old = node.value;
            if (a.kind == 4) {
                hands.get(a.hand).undo.push(() -> node.value = old);
                node.value = a.value;
            }
            if (a.kind == 6) {
                hands.get(a.hand).undo.push(() -> node.cut = -2);
                node.cut = a.hand;
            }
            return old;
        }

        private int put(Act a, Node node) {
            if (node != null && node.cut == a.hand) {
                int old = node.value;
                hands.get(a.hand).undo.push(() -> {
                    node.cut = a.hand;
                    node.value = old;
                });
                node.cut = -2;
                node.value = a.value;
                return keys.size();
            }
            if (node != null) {
                return have(a, a.low, node, false) ? -4 : -2;
            }
            if (keys.size() == 24) {
                return -1;
            }
            Need need = new Need(a.low, 2);
            if (!gapless && !stoppers(a.hand, need).isEmpty()) {
                stuck = need;
                return -2;
            }
            Node fresh = new Node();
            fresh.value = a.value;
            fresh.put = a.hand;
            fresh.shared.add(a.hand);
            fresh.whole = a.hand;
            fresh.gap.addAll(behind(a.low).gap);
            keys.put(a.low, fresh);
            hands.get(a.hand).undo.push(() -> vanish(a.low, a.hand));
            return keys.size();
        }

        void run(int n) {
            for (int i = 0; i < n && done < order.size(); i++) {
                doLater();
                int step = order.get(done++);
                if (hands.get(plan.steps.get(step).hand).state == 2) {
                    later.add(step);
                } else {
                    answers[step] = act(plan.steps.get(step));
                }
            }
            doLater();
        }

        private void doLater() {
            boolean again = true;
            while (again) {
                again = false;
                for (int step : later) {
                    if (hands.get(plan.steps.get(step).hand).state != 2) {
                        later.remove(step);
                        answers[step] = act(plan.steps.get(step));
                        again = true;
                        break;
                    }
                }
            }
        }

        int hindered() {
            int found = 0;
            for (int a : answers) {
                found += a == -2 || a == -3 ? 1 : 0;
            }
            return found;
        }

        int deaths() {
            return hands.stream().mapToInt(h -> h.deaths).sum();
        }

        int values() {
            return keys.values().stream().mapToInt(n -> n.value).sum();
        }

        String content() {
            StringBuilder s = new StringBuilder();
            keys.forEach((k, n) -> s.append(k).append('=').append(n.value).append(' '));
            return s.toString();
        }

        int locks(int hand) {
            int found = end.gap.contains(hand) ? 1 : 0;
            for (Node n : keys.values()) {
                found += (n.gap.contains(hand) ? 1 : 0) + (n.shared.contains(hand) ? 1 : 0);
            }
            return found;
        }

        /** KEYS in order, END last. */
        List<Node> nodes() {
            List<Node> all = new ArrayList<>(keys.values());
            all.add(end);
            return all;
        }
    }

    private final List<Byte> tape = new ArrayList<>();
    private int faultCode;
    private int faultPlace = -1;
    private Plan plan = new Plan();
    private Sim sim = new Sim(plan);
    /** All that changed the Sim: an Act, or an Integer for a RUN. */
    private List<Object> history = new ArrayList<>();
    private final List<Object[]> snapshots = new ArrayList<>();

    private static Sim replay(Plan plan, List<Object> history) {
        Sim sim = new Sim(plan);
        for (Object o : history) {
            if (o instanceof Act a) {
                sim.act(a);
            } else {
                sim.run((Integer) o);
            }
        }
        return sim;
    }

    private static Float key(int n, int d) {
        return n < 0 || n > 99999999 || d < 1 || d > 9999 ? null : Float.valueOf((float) n / (float) d);
    }

    private static Float packed(int told) {
        return told < 0 || told > 999999999 ? null : key(told / 10000, told % 10000);
    }

    private static int bits(float f) {
        return Float.floatToIntBits(f);
    }

    private static int mask(Iterable<Integer> hands) {
        int found = 0;
        for (int h : hands) {
            found |= 1 << h;
        }
        return found;
    }

    private boolean has(int hand) {
        return hand >= 0 && hand < plan.hands.size();
    }

    private List<Float> order() {
        return new ArrayList<>(sim.keys.keySet());
    }

    /** A call of the face by its name: what is due, or the name of an exception as a text. */
    Object call(String name, int... a) {
        switch (name) {
            case "feed":
                return feed(a);
            case "text":
                return text(a[0]);
            case "fault":
                return a[0] == 0 ? faultCode : a[0] == 1 ? faultPlace : -1;
            case "named":
                return named(a[0]);
            case "take":
                return take();
            case "back":
                return back();
            case "run":
                return a[0] < 0 || a[0] > 24 ? (Object) (-1) : (Object) run(a[0]);
            case "open":
                return act(0, a[0], 0f, 0f, 0);
            case "end":
                return act(7, a[0], 0f, 0f, 0);
            case "quit":
                return act(8, a[0], 0f, 0f, 0);
            case "scan":
                return act(1, a[0], packed(a[1]), packed(a[2]), 0);
            case "seek":
                return act(2, a[0], key(a[1], a[2]), key(a[1], a[2]), 0);
            case "grab":
                return act(3, a[0], key(a[1], a[2]), key(a[1], a[2]), 0);
            case "set":
                return act(4, a[0], key(a[1], a[2]), key(a[1], a[2]), a[3]);
            case "put":
                return act(5, a[0], key(a[1], a[2]), key(a[1], a[2]), a[3]);
            case "cut":
                return act(6, a[0], key(a[1], a[2]), key(a[1], a[2]), 0);
            case "putNext":
                if (a[1] < 0 || a[1] >= sim.keys.size()) {
                    return -1;
                }
                float next = Math.nextUp(order().get(a[1]));
                return act(5, a[0], next, next, a[2]);
            default:
                return ask(name, a);
        }
    }

    private int feed(int[] a) {
        if (tape.size() + 20 > 700) {
            return -1;
        }
        for (int n : a) {
            for (byte b : java.nio.ByteBuffer.allocate(4).putInt(n).array()) {
                tape.add(b);
            }
        }
        return tape.size();
    }

    private int text(int n) {
        if (n < 0 || n > tape.size()) {
            return -2;
        }
        StringBuilder s = new StringBuilder();
        for (int i = 0; i < n; i++) {
            s.append((char) (tape.get(i) & 255));
        }
        tape.clear();
        try {
            plan = read(s.toString());
        } catch (Fault f) {
            faultCode = f.code;
            faultPlace = f.place;
            return -1;
        }
        faultCode = 0;
        faultPlace = -1;
        history = new ArrayList<>();
        sim = new Sim(plan);
        snapshots.clear();
        return plan.lines;
    }

    private int named(int letters) {
        for (int i = 0; i < plan.hands.size(); i++) {
            int packed = 0;
            for (int k = 0; k < 6; k++) {
                String name = plan.hands.get(i);
                packed = packed * 32 + (k < name.length() ? name.charAt(k) - 'a' + 1 : 0);
            }
            if (packed == letters) {
                return i;
            }
        }
        return -1;
    }

    private int take() {
        if (snapshots.size() == 16) {
            return -1;
        }
        snapshots.add(new Object[] {new ArrayList<>(history), new ArrayList<>(tape)});
        return snapshots.size();
    }

    @SuppressWarnings("unchecked")
    private int back() {
        if (snapshots.isEmpty()) {
            return -1;
        }
        Object[] s = snapshots.remove(snapshots.size() - 1);
        history = (List<Object>) s[0];
        tape.clear();
        tape.addAll((List<Byte>) s[1]);
        sim = replay(plan, history);
        return snapshots.size();
    }

    private int run(int n) {
        history.add(n);
        sim.run(n);
        return notDone();
    }

    private int notDone() {
        return sim.order.size() - sim.done + sim.later.size();
    }

    private int act(int kind, int hand, Float low, Float high, int value) {
        if (low == null || high == null || low > high || value < 0 || value > 9999) {
            return -1;
        }
        Act a = new Act(kind, hand, low, high, value);
        history.add(a);
        return sim.act(a);
    }

    private Object ask(String name, int[] a) {
        switch (name) {
            case "key":
                return keyAt(a[0], a[1]);
            case "bits":
                return key(a[0], a[1]) == null ? -1 : bits(key(a[0], a[1]));
            case "place":
                return key(a[0], a[1]) == null ? -1 : sim.keys.headMap(key(a[0], a[1])).size();
            case "width":
                return width(a[0], a[1]);
            case "sum":
                return bits(sum());
            case "mean":
                return sim.keys.isEmpty() ? -2 : bits(sum() / sim.keys.size());
            case "widest":
                return widest();
            case "between":
                return between(a[0]);
            case "ratio":
                return ratio(a[0], a[1]);
            case "nearest":
                return nearest(a[0], a[1]);
            case "range":
                return range(a[0], a[1], a[2]);
            case "count":
                return count(a[0]);
            case "answer":
                return a[0] < 0 || a[0] >= plan.steps.size() ? -6 : sim.answers[a[0]];
            case "queue":
                return a[0] < 0 ? -1 : a[0] < sim.line.size() ? sim.line.get(a[0]) : -2;
            case "free":
                return free();
            case "same":
                return orders().size();
            case "sameOrder":
                return sameOrder(a[0]);
            case "chance":
                return chance(a[0]);
            case "tried":
                return tried(a[0], a[1]);
            case "culprit":
                return culprit();
            case "swapped":
                return swapped(a[0]);
            case "fate":
                return fate(a[0], a[1]);
            default:
                return askHand(name, a);
        }
    }

    private Object askHand(String name, int[] a) {
        int hand = a[0];
        if (!has(hand)) {
            return name.equals("outcome") ? -5 : name.equals("loses") ? Integer.MIN_VALUE : -1;
        }
        Hand h = sim.hands.get(hand);
        switch (name) {
            case "outcome":
                return h.outcome;
            case "hand":
                return switch (a[1]) {
                    case 0 -> h.state;
                    case 1 -> h.state == 2 ? mask(sim.stoppers(hand, h.need)) : 0;
                    case 2 -> sim.locks(hand);
                    case 3 -> h.deaths;
                    case 4 -> h.undo.size();
                    default -> -1;
                };
            case "lock":
                return lock(hand, a[1], a[2]);
            case "held":
                return held(hand, a[1]);
            case "stops":
                return stops(hand, key(a[1], a[2]), a[3]);
            case "ring":
                if (!has(a[1]) || a[1] == hand || h.state != 1) {
                    return -1;
                }
                return sim.leads(a[1], hand, 0) ? 1 : 0;
            case "phantoms":
                return phantoms(hand, packed(a[1]), packed(a[2]));
            case "wakes":
            case "loses":
                return without(name, hand);
            default:
                throw new IllegalStateException(name);
        }
    }

    private Object keyAt(int place, int what) {
        if (place < 0 || place >= sim.keys.size()) {
            return IndexOutOfBoundsException.class.getName();
        }
        Node node = sim.nodes().get(place);
        return switch (what) {
            case 0 -> (Object) bits(order().get(place));
            case 1 -> node.value;
            case 2 -> node.cut;
            case 3 -> node.put;
            default -> NoSuchElementException.class.getName();
        };
    }

    private float sum() {
        float s = 0;
        for (float f : sim.keys.keySet()) {
            s += f;
        }
        return s;
    }

    private int width(int place, int what) {
        if (place < 0 || place >= sim.keys.size() || what < 0 || what > 1) {
            return -1;
        }
        float ahead = place == 0 ? 0 : order().get(place - 1);
        float key = order().get(place);
        return bits(what == 0 ? key - ahead : (key + ahead) / 2f);
    }

    private int widest() {
        int best = -2;
        for (int i = 0; i < sim.keys.size(); i++) {
            if (best < 0 || width(i, 0) > width(best, 0)) {
                best = i;
            }
        }
        return best;
    }

    private int between(int place) {
        if (place < 0 || place >= sim.keys.size()) {
            return -1;
        }
        int ahead = place == 0 ? 0 : bits(order().get(place - 1));
        return Math.max(0, bits(order().get(place)) - ahead - 1);
    }

    private int ratio(int one, int other) {
        int size = sim.keys.size();
        if (one < 0 || one >= size || other < 0 || other >= size) {
            return -1;
        }
        return order().get(other) == 0f ? -2 : bits(order().get(one) / order().get(other));
    }

    private int nearest(int n, int d) {
        Float key = key(n, d);
        if (key == null) {
            return -1;
        }
        int best = -2;
        float least = Float.POSITIVE_INFINITY;
        List<Float> all = order();
        for (int i = all.size() - 1; i >= 0; i--) {
            float apart = Math.abs(all.get(i) - key);
            if (apart <= least) {
                best = i;
                least = apart;
            }
        }
        return best;
    }

    private int range(int low, int high, int what) {
        Float first = packed(low);
        Float second = packed(high);
        if (first == null || second == null || first > second || what < 0 || what > 2) {
            return -1;
        }
        java.util.Collection<Node> part = sim.keys.subMap(first, true, second, true).values();
        return switch (what) {
            case 0 -> part.size();
            case 1 -> part.stream().mapToInt(n -> n.value).sum();
            default -> (int) part.stream().filter(n -> n.cut != -2).count();
        };
    }

    private int count(int what) {
        return switch (what) {
            case 0 -> plan.hands.size();
            case 1 -> sim.keys.size();
            case 2 -> plan.steps.size();
            case 3 -> plan.steps.size() - notDone();
            case 4 -> sim.later.size();
            case 5 -> java.util.stream.IntStream.range(0, plan.hands.size()).map(sim::locks).sum();
            case 6 -> (int) sim.hands.stream().filter(h -> h.state == 1).count();
            case 7 -> sim.line.size();
            case 8 -> sim.deaths();
            case 9 -> sim.values();
            case 10 -> (int) sim.keys.values().stream().filter(n -> n.cut != -2).count();
            case 11 -> snapshots.size();
            default -> -1;
        };
    }

    private int free() {
        int found = 0;
        List<Node> all = sim.nodes();
        for (int i = 0; i < all.size(); i++) {
            found |= all.get(i).gap.isEmpty() ? 1 << i : 0;
        }
        return found;
    }

    private int lock(int hand, int place, int what) {
        if (place < 0 || place > sim.keys.size() || what < 0 || what > 1) {
            return -1;
        }
        Node node = sim.nodes().get(place);
        if (what == 0) {
            return node.gap.contains(hand) ? 1 : 0;
        }
        return node.whole == hand ? 2 : node.shared.contains(hand) ? 1 : 0;
    }

    private int held(int hand, int k) {
        if (k < 0) {
            return -1;
        }
        List<Integer> all = new ArrayList<>();
        for (int i = 0; i <= sim.keys.size(); i++) {
            if (lock(hand, i, 0) == 1) {
                all.add(10 * i);
            }
            if (lock(hand, i, 1) > 0) {
                all.add(10 * i + lock(hand, i, 1));
            }
        }
        return k < all.size() ? all.get(k) : -2;
    }

    private int stops(int hand, Float key, int what) {
        if (key == null || what < 0 || what > 2) {
            return -1;
        }
        Node node = sim.keys.get(key);
        if (what < 2) {
            return mask(sim.stoppers(hand, new Need(key, what)));
        }
        if (node != null) {
            return node.cut == hand ? 0 : stops(hand, key, 0);
        }
        return mask(sim.stoppers(hand, new Need(key, 2)));
    }

    private int phantoms(int hand, Float low, Float high) {
        if (low == null || high == null || low > high) {
            return -1;
        }
        List<Node> places = new ArrayList<>(sim.keys.subMap(low, true, high, true).values());
        places.add(sim.behind(high));
        int found = 0;
        for (int other = 0; other < plan.hands.size(); other++) {
            if (other == hand || sim.hands.get(other).state != 1) {
                continue;
            }
            for (Node node : places) {
                TreeSet<Integer> rest = new TreeSet<>(node.gap);
                rest.remove(other);
                found |= rest.isEmpty() ? 1 << other : 0;
            }
        }
        return found;
    }

    private int without(String name, int hand) {
        if (sim.hands.get(hand).state == 0) {
            return name.equals("wakes") ? -1 : Integer.MIN_VALUE;
        }
        Sim other = replay(plan, history);
        other.act(new Act(8, hand, 0f, 0f, 0));
        if (name.equals("loses")) {
            return other.values() - sim.values();
        }
        TreeSet<Integer> found = new TreeSet<>(sim.line);
        found.removeAll(other.line);
        found.remove(hand);
        return mask(found);
    }

    private List<List<Integer>> orders() {
        Sim whole = new Sim(plan);
        whole.run(24);
        for (int i = 0; i < plan.hands.size(); i++) {
            if (whole.hands.get(i).state == 1) {
                whole.act(new Act(7, i, 0f, 0f, 0));
                whole.run(0);
                i = -1;
            }
        }
        List<List<Integer>> found = new ArrayList<>();
        permute(new ArrayList<>(), found, whole.content());
        return found;
    }

    private void permute(List<Integer> ahead, List<List<Integer>> found, String aim) {
        if (ahead.size() == plan.hands.size()) {
            Sim alone = new Sim(plan);
            for (int hand : ahead) {
                plan.steps.stream().filter(s -> s.hand == hand).forEach(alone::act);
                alone.act(new Act(7, hand, 0f, 0f, 0));
            }
            if (alone.content().equals(aim)) {
                found.add(new ArrayList<>(ahead));
            }
            return;
        }
        for (int i = 0; i < plan.hands.size(); i++) {
            if (!ahead.contains(i)) {
                ahead.add(i);
                permute(ahead, found, aim);
                ahead.remove(ahead.size() - 1);
            }
        }
    }

    private int sameOrder(int k) {
        if (k < 0) {
            return -1;
        }
        List<List<Integer>> all = orders();
        return all.isEmpty() || k >= plan.hands.size() ? -2 : all.get(0).get(k);
    }

    private long last;

    private Sim byChance() {
        Sim s = new Sim(plan);
        List<ArrayDeque<Act>> left = new ArrayList<>();
        for (int i = 0; i < plan.hands.size(); i++) {
            left.add(new ArrayDeque<>());
        }
        plan.steps.forEach(a -> left.get(a.hand).add(a));
        while (true) {
            List<Integer> able = new ArrayList<>();
            for (int i = 0; i < left.size(); i++) {
                if (!left.get(i).isEmpty() && s.hands.get(i).state != 2) {
                    able.add(i);
                }
            }
            if (able.isEmpty()) {
                return s;
            }
            last = (last * 1103515245L + 12345) % (1L << 31);
            s.act(left.get(able.get((int) (last / 65536 % able.size()))).poll());
        }
    }

    private int chance(int seed) {
        if (seed < 0) {
            return -1;
        }
        last = seed;
        int found = 0;
        for (int i = 0; i < 10; i++) {
            found += byChance().deaths() > 0 ? 1 : 0;
        }
        return found;
    }

    private int fate(int seed, int hand) {
        if (seed < 0) {
            return -1;
        }
        last = seed;
        return has(hand) ? byChance().hands.get(hand).outcome : -5;
    }

    private int tried(int what, int i) {
        if (what < 0 || what > 4 || (what == 2 ? !has(i) : i != 0)) {
            return -1;
        }
        Sim s = new Sim(plan);
        s.gapless = what == 1;
        s.loose = what == 3;
        s.impatient = what == 4;
        if (what == 2) {
            s.order.removeIf(step -> plan.steps.get(step).hand == i);
        }
        s.run(24);
        return s.hindered();
    }

    private int culprit() {
        Sim all = new Sim(plan);
        all.run(24);
        if (all.deaths() == 0) {
            return -2;
        }
        for (int i = 0; i < plan.steps.size(); i++) {
            Sim s = new Sim(plan);
            s.order.remove((Integer) i);
            s.run(24);
            if (s.deaths() == 0) {
                return i;
            }
        }
        return -3;
    }

    private int swapped(int step) {
        if (step < 0 || step + 1 >= plan.steps.size()) {
            return -1;
        }
        Sim s = new Sim(plan);
        java.util.Collections.swap(s.order, step, step + 1);
        s.run(24);
        return s.hindered();
    }
}
