import java.util.Arrays;
import java.util.NoSuchElementException;

/** An ordered index locked by keys and gaps; README.md says how to use it. */
public final class GapLocks {
    public static final int NONE = -1;

    private static final int MAX_HANDS = 5;
    private static final int MAX_TOLD = 16;
    private static final int MAX_KEYS = 24;
    private static final int MAX_STEPS = 24;
    private static final int MAX_TAPE = 700;
    private static final int MAX_SNAPSHOTS = 16;
    /** More changes than 512 calls and all STEPS of a TEXT can do. */
    private static final int MAX_CHANGES = 600;
    private static final int MAX_FIRST = 99999999;
    private static final int MAX_SECOND = 9999;
    private static final int MAX_VALUE = 9999;
    /** Where a loop's end isn't told by the document. */
    private static final int FAR = 1000000;

    /** Answers beside NONE. */
    private static final int WAITS = -2;
    private static final int DIED = -3;
    private static final int ABSENT = -4;
    private static final int NOBODY = -2;
    private static final int NOT_DONE = -5;

    /** What a HAND does, in the order of the words of the language behind hand and key. */
    private static final int DO_OPEN = 0;
    private static final int DO_SCAN = 1;
    private static final int DO_SEEK = 2;
    private static final int DO_GRAB = 3;
    private static final int DO_SET = 4;
    private static final int DO_PUT = 5;
    private static final int DO_CUT = 6;
    private static final int DO_END = 7;
    private static final int DO_QUIT = 8;

    private static final int SHUT = 0;
    private static final int OPENED = 1;
    private static final int WAITING = 2;

    private static final int NEED_SHARED = 1;
    private static final int NEED_WHOLE = 2;
    private static final int NEED_GAP = 3;

    private final Reader reader = new Reader();
    private final Trials trials = new Trials();
    private final Desk desk = new Desk();
    private final Desk[] kept = new Desk[MAX_SNAPSHOTS];
    private int keptSize;
    private Script script = new Script();
    private Script draft = new Script();

    public GapLocks() {
    }

    public int feed(int a, int b, int c, int d, int e) {
        if (desk.tapeLength > MAX_TAPE - 20) {
            return NONE;
        }
        desk.append(a);
        desk.append(b);
        desk.append(c);
        desk.append(d);
        desk.append(e);
        return desk.tapeLength;
    }

    public int text(int n) {
        if (n < 0 || n > desk.tapeLength) {
            return -2;
        }
        boolean right = reader.readAll(draft, desk.tape, n);
        desk.tapeLength = 0;
        if (!right) {
            return NONE;
        }
        Script old = script;
        script = draft;
        draft = old;
        desk.course.begin(script);
        keptSize = 0;
        trials.measured = false;
        return script.lines;
    }

    public int fault(int what) {
        // Not of the Desk: which text() was the latest doesn't change by a SNAPSHOT that is put back.
        if (what == 0) {
            return reader.faultCode;
        }
        return what == 1 ? reader.faultPlace : NONE;
    }

    public int named(int letters) {
        return script.handNamed(letters);
    }

    public int key(int place, int what) throws IndexOutOfBoundsException, NoSuchElementException {
        Shelf shelf = desk.course.world.shelf;
        if (place < 0 || place >= shelf.size) {
            throw new IndexOutOfBoundsException("no such KEY");
        }
        switch (what) {
            case 0:
                return shelf.bits[place];
            case 1:
                return shelf.value[place];
            case 2:
                return shelf.cutter[place];
            case 3:
                return shelf.putter[place];
            default:
                throw new NoSuchElementException("no such what");
        }
    }

    public int bits(int n, int d) {
        return Floats.keyBits(n, d);
    }

    public int place(int n, int d) {
        int key = Floats.keyBits(n, d);
        return key == NONE ? NONE : desk.course.world.shelf.placeFrom(key);
    }

    public int width(int place, int what) {
        Shelf shelf = desk.course.world.shelf;
        if (place < 0 || place >= shelf.size || what < 0 || what > 1) {
            return NONE;
        }
        return Floats.bitsOf(what == 0 ? shelf.widthAt(place) : shelf.middleAt(place));
    }

    public int sum() {
        return Floats.bitsOf(desk.course.world.shelf.keySum());
    }

    public int widest() {
        Shelf shelf = desk.course.world.shelf;
        int best = -2;
        float most = 0;
        for (int i = 0; i < shelf.size; i++) {
            float width = shelf.widthAt(i);
            if (best < 0 || width > most) {
                best = i;
                most = width;
            }
        }
        return best;
    }

    public int lock(int hand, int place, int what) {
        World world = desk.course.world;
        if (!world.crew.has(hand) || place < 0 || place > world.shelf.size || what < 0 || what > 1) {
            return NONE;
        }
        return what == 0 ? world.shelf.gaps[place] >> hand & 1 : world.shelf.levelAt(place, hand);
    }

    public int hand(int hand, int what) {
        World world = desk.course.world;
        if (!world.crew.has(hand)) {
            return NONE;
        }
        switch (what) {
            case 0:
                return world.crew.state[hand];
            case 1:
                return world.waitsFor(hand);
            case 2:
                return world.shelf.locksOf(hand);
            case 3:
                return world.crew.deaths[hand];
            case 4:
                return world.diary.changesBy(hand);
            default:
                return NONE;
        }
    }

    public int queue(int k) {
        Crew crew = desk.course.world.crew;
        if (k < 0) {
            return NONE;
        }
        return k < crew.lineLength ? crew.line[k] : -2;
    }

    public int stops(int hand, int n, int d, int what) {
        World world = desk.course.world;
        int key = Floats.keyBits(n, d);
        if (!world.crew.has(hand) || key == NONE || what < 0 || what > 2) {
            return NONE;
        }
        Shelf shelf = world.shelf;
        int at = shelf.placeFrom(key);
        int need = what == 0 ? NEED_SHARED : NEED_WHOLE;
        if (what == 2) {
            boolean there = shelf.hasAt(at, key);
            if (there && shelf.cutter[at] == hand) {
                return 0;
            }
            need = there ? NEED_SHARED : NEED_GAP;
        }
        return shelf.blockers(hand, need, key);
    }

    public int ring(int hand, int other) {
        World world = desk.course.world;
        Crew crew = world.crew;
        if (!crew.has(hand) || !crew.has(other) || hand == other || crew.state[hand] != OPENED) {
            return NONE;
        }
        return world.reaches(1 << other, hand) ? 1 : 0;
    }

    public int free() {
        Shelf shelf = desk.course.world.shelf;
        int found = 0;
        for (int i = 0; i <= shelf.size; i++) {
            found |= shelf.gaps[i] == 0 ? 1 << i : 0;
        }
        return found;
    }

    public int open(int hand) {
        return desk.course.world.act(hand, DO_OPEN, 0, 0, 0);
    }

    public int scan(int hand, int low, int high) {
        int first = Floats.packedKey(low);
        int second = Floats.packedKey(high);
        if (first == NONE || second == NONE || first > second) {
            return NONE;
        }
        return desk.course.world.act(hand, DO_SCAN, first, second, 0);
    }

    public int seek(int hand, int n, int d) {
        return actOnKey(hand, DO_SEEK, Floats.keyBits(n, d), 0);
    }

    public int grab(int hand, int n, int d) {
        return actOnKey(hand, DO_GRAB, Floats.keyBits(n, d), 0);
    }

    public int set(int hand, int n, int d, int value) {
        return actOnKey(hand, DO_SET, Floats.keyBits(n, d), value);
    }

    public int put(int hand, int n, int d, int value) {
        return actOnKey(hand, DO_PUT, Floats.keyBits(n, d), value);
    }

    public int cut(int hand, int n, int d) {
        return actOnKey(hand, DO_CUT, Floats.keyBits(n, d), 0);
    }

    public int end(int hand) {
        return desk.course.world.act(hand, DO_END, 0, 0, 0);
    }

    public int quit(int hand) {
        return desk.course.world.act(hand, DO_QUIT, 0, 0, 0);
    }

    public int outcome(int hand) {
        Crew crew = desk.course.world.crew;
        return crew.has(hand) ? crew.outcome[hand] : -5;
    }

    public int run(int n) {
        if (n < 0 || n > MAX_STEPS) {
            return NONE;
        }
        desk.course.go(script, n);
        return script.steps - desk.course.marked(script, Course.DONE);
    }

    public int answer(int step) {
        return step < 0 || step >= script.steps ? -6 : desk.course.answer[step];
    }

    public int same() {
        trials.runOut(script);
        trials.matchOrders(script);
        return trials.matches;
    }

    public int chance(int seed) {
        return seed < 0 ? NONE : trials.deadlyPlays(script, seed);
    }

    public int tried(int what, int i) {
        boolean known = what == 2 ? i >= 0 && i < script.hands : what >= 0 && what <= 4 && i == 0;
        return known ? trials.hindered(script, what, i) : NONE;
    }

    public int held(int hand, int k) {
        World world = desk.course.world;
        if (!world.crew.has(hand) || k < 0) {
            return NONE;
        }
        return world.shelf.lockByNumber(hand, k);
    }

    public int range(int low, int high, int what) {
        int first = Floats.packedKey(low);
        int second = Floats.packedKey(high);
        if (first == NONE || second == NONE || first > second || what < 0 || what > 2) {
            return NONE;
        }
        Shelf shelf = desk.course.world.shelf;
        int found = 0;
        for (int i = shelf.placeFrom(first); i < shelf.size && shelf.bits[i] <= second; i++) {
            if (what == 1) {
                found += shelf.value[i];
            } else if (what == 0 || shelf.cutter[i] != NOBODY) {
                found++;
            }
        }
        return found;
    }

    public int phantoms(int hand, int low, int high) {
        World world = desk.course.world;
        int first = Floats.packedKey(low);
        int second = Floats.packedKey(high);
        if (!world.crew.has(hand) || first == NONE || second == NONE || first > second) {
            return NONE;
        }
        int from = world.shelf.placeFrom(first);
        int found = 0;
        for (int other = 0; other < world.crew.size; other++) {
            boolean asked = other != hand && world.crew.state[other] == OPENED;
            if (asked && world.shelf.leavesGap(other, from, second)) {
                found |= 1 << other;
            }
        }
        return found;
    }

    public int between(int place) {
        Shelf shelf = desk.course.world.shelf;
        if (place < 0 || place >= shelf.size) {
            return NONE;
        }
        int ahead = place == 0 ? 0 : shelf.bits[place - 1];
        // BITS of floats that aren't below 0 follow one another as the floats do.
        return shelf.bits[place] == ahead ? 0 : shelf.bits[place] - ahead - 1;
    }

    public int putNext(int hand, int place, int value) {
        Shelf shelf = desk.course.world.shelf;
        if (place < 0 || place >= shelf.size) {
            return NONE;
        }
        return actOnKey(hand, DO_PUT, shelf.bits[place] + 1, value);
    }

    public int mean() {
        Shelf shelf = desk.course.world.shelf;
        return shelf.size == 0 ? -2 : Floats.bitsOf(shelf.keySum() / (float) shelf.size);
    }

    public int ratio(int one, int other) {
        Shelf shelf = desk.course.world.shelf;
        if (one < 0 || one >= shelf.size || other < 0 || other >= shelf.size) {
            return NONE;
        }
        float divisor = Floats.floatOf(shelf.bits[other]);
        return divisor > 0 ? Floats.bitsOf(Floats.floatOf(shelf.bits[one]) / divisor) : -2;
    }

    public int culprit() {
        return trials.firstCulprit(script);
    }

    public int swapped(int step) {
        return step < 0 || step >= script.steps - 1 ? NONE : trials.hinderedSwapped(script, step);
    }

    public int fate(int seed, int hand) {
        if (seed < 0) {
            return NONE;
        }
        if (hand < 0 || hand >= script.hands) {
            return -5;
        }
        trials.play(script, seed);
        return trials.course.world.crew.outcome[hand];
    }

    public int wakes(int hand) {
        Crew now = desk.course.world.crew;
        if (!now.has(hand) || now.state[hand] == SHUT) {
            return NONE;
        }
        Crew then = worldWithout(hand).crew;
        int found = 0;
        for (int other = 0; other < now.size; other++) {
            boolean woken = now.state[other] == WAITING && then.state[other] != WAITING;
            found |= woken && other != hand ? 1 << other : 0;
        }
        return found;
    }

    public int loses(int hand) {
        World world = desk.course.world;
        if (!world.crew.has(hand) || world.crew.state[hand] == SHUT) {
            return Integer.MIN_VALUE;
        }
        return worldWithout(hand).shelf.valueSum() - world.shelf.valueSum();
    }

    public int nearest(int n, int d) {
        int key = Floats.keyBits(n, d);
        if (key == NONE) {
            return NONE;
        }
        Shelf shelf = desk.course.world.shelf;
        float told = Floats.floatOf(key);
        float least = 0;
        int best = -2;
        for (int i = 0; i < shelf.size; i++) {
            float apart = Floats.floatOf(shelf.bits[i]) - told;
            apart = apart < 0 ? -apart : apart;
            if (best < 0 || apart < least) {
                best = i;
                least = apart;
            }
        }
        return best;
    }

    public int sameOrder(int k) {
        if (k < 0) {
            return NONE;
        }
        trials.runOut(script);
        trials.matchOrders(script);
        return trials.matches == 0 || k >= script.hands ? -2 : trials.firstOrder[k];
    }

    public int take() {
        if (keptSize >= MAX_SNAPSHOTS) {
            return NONE;
        }
        // A row for a SNAPSHOT is made once and used again, to keep what a run makes small.
        if (kept[keptSize] == null) {
            kept[keptSize] = new Desk();
        }
        kept[keptSize].copyFrom(desk);
        keptSize++;
        return keptSize;
    }

    public int back() {
        if (keptSize <= 0 || kept[keptSize - 1] == null) {
            return NONE;
        }
        keptSize--;
        desk.copyFrom(kept[keptSize]);
        return keptSize;
    }

    public int count(int what) {
        World world = desk.course.world;
        switch (what) {
            case 0:
                return script.hands;
            case 1:
                return world.shelf.size;
            case 2:
                return script.steps;
            case 3:
                return desk.course.marked(script, Course.DONE);
            case 4:
                return desk.course.marked(script, Course.KEPT);
            case 5:
                return world.allLocks();
            case 6:
                return world.crew.inState(OPENED);
            case 7:
                return world.crew.inState(WAITING);
            case 8:
                return world.crew.allDeaths();
            case 9:
                return world.shelf.valueSum();
            case 10:
                return world.shelf.cutKeys();
            case 11:
                return keptSize;
            default:
                return NONE;
        }
    }

    private int actOnKey(int hand, int kind, int key, int value) {
        if (key == NONE || value < 0 || value > MAX_VALUE) {
            return NONE;
        }
        return desk.course.world.act(hand, kind, key, key, value);
    }

    /** What would be, if a HAND quit now. */
    private World worldWithout(int hand) {
        trials.course.copyFrom(desk.course);
        trials.course.world.act(hand, DO_QUIT, 0, 0, 0);
        return trials.course.world;
    }

    /** Floats that aren't below 0, and their BITS; the library's own ways to them aren't at hand. */
    private static final class Floats {
        private static final int INFINITE = 255 << 23;

        static int keyBits(int n, int d) {
            if (n < 0 || n > MAX_FIRST || d < 1 || d > MAX_SECOND) {
                return NONE;
            }
            return bitsOf((float) n / (float) d);
        }

        /** The KEY told by one number, as for scan. */
        static int packedKey(int told) {
            if (told < 0 || told / 10000 > 99999) {
                return NONE;
            }
            return keyBits(told / 10000, told % 10000);
        }

        static int bitsOf(float number) {
            if (!(number > 0)) {
                return 0;
            }
            double part = number;
            int power = 0;
            for (int i = 0; i < 128 && part >= 2; i++) {
                part /= 2;
                power++;
            }
            for (int i = 0; i < 149 && part < 1; i++) {
                part *= 2;
                power--;
            }
            if (power > 127) {
                return INFINITE;
            }
            if (power >= -126) {
                return power + 127 << 23 | (int) ((part - 1) * 8388608);
            }
            for (int i = -149; i < power; i++) {
                part *= 2;
            }
            return (int) part;
        }

        static float floatOf(int bits) {
            int power = (bits >>> 23) - 150;
            double number = (bits & 0x7fffff) + 0x800000;
            if (power == -150) {
                power = -149;
                number -= 0x800000;
            }
            for (int i = 0; i < power; i++) {
                number *= 2;
            }
            for (int i = 0; i > power; i--) {
                number /= 2;
            }
            return (float) number;
        }
    }

    /** A TEXT that has been read. */
    private static final class Script {
        int lines;
        int hands;
        int steps;
        final Shelf told = new Shelf();
        final int[] names = new int[MAX_HANDS];
        final int[] kind = new int[MAX_STEPS];
        final int[] hand = new int[MAX_STEPS];
        final int[] low = new int[MAX_STEPS];
        final int[] high = new int[MAX_STEPS];
        final int[] value = new int[MAX_STEPS];

        void clear() {
            lines = 0;
            hands = 0;
            steps = 0;
            told.size = 0;
        }

        int handNamed(int letters) {
            for (int i = 0; i < hands; i++) {
                if (names[i] == letters) {
                    return i;
                }
            }
            return NONE;
        }

        boolean tellsKey(int key) {
            return told.hasAt(told.placeFrom(key), key);
        }

        void addHand(int letters) {
            if (hands < MAX_HANDS) {
                names[hands] = letters;
                hands++;
            }
        }

        void addKey(int key, int worth) {
            told.insert(told.placeFrom(key), key, worth);
        }

        void addStep(int stepKind, int stepHand, int first, int second, int worth) {
            if (steps < MAX_STEPS) {
                kind[steps] = stepKind;
                hand[steps] = stepHand;
                low[steps] = first;
                high[steps] = second;
                value[steps] = worth;
                steps++;
            }
        }
    }

    /** Reads bytes into a Script, up to the first FAULT. */
    private static final class Reader {
        private static final int NOTHING = 0;
        private static final int WORD = 1;
        private static final int NUMBER = 2;
        private static final int STOP = 3;
        private static final int WRONG = 4;

        /** Words of the language as named() tells letters: hand, key, then what HANDS do, by DO_OPEN and so on. */
        private static final int[] WORDS = {
            8 << 25 | 1 << 20 | 14 << 15 | 4 << 10,
            11 << 25 | 5 << 20 | 25 << 15,
            15 << 25 | 16 << 20 | 5 << 15 | 14 << 10,
            19 << 25 | 3 << 20 | 1 << 15 | 14 << 10,
            19 << 25 | 5 << 20 | 5 << 15 | 11 << 10,
            7 << 25 | 18 << 20 | 1 << 15 | 2 << 10,
            19 << 25 | 5 << 20 | 20 << 15,
            16 << 25 | 21 << 20 | 20 << 15,
            3 << 25 | 21 << 20 | 20 << 15,
            5 << 25 | 14 << 20 | 4 << 15,
            17 << 25 | 21 << 20 | 9 << 15 | 20 << 10
        };
        private static final int HAND_WORD = 0;
        private static final int KEY_WORD = 1;
        private static final int STEP_WORDS = 2;
        private static final int TOO_GREAT = 1000000000;

        int faultCode;
        int faultPlace = NONE;
        private byte[] bytes = new byte[0];
        private int length;
        private int at;
        private int token;
        private int tokenPlace;
        /** A number's worth, or a word's letters. */
        private int tokenWorth;
        private Script script = new Script();

        boolean readAll(Script into, byte[] tape, int n) {
            script = into;
            script.clear();
            bytes = tape;
            length = Math.min(n, tape.length);
            at = 0;
            faultCode = 0;
            faultPlace = NONE;
            for (int i = 0; i <= length; i++) {
                step();
                if (token == NOTHING) {
                    return true;
                }
                if (!readLine()) {
                    return false;
                }
                script.lines++;
            }
            return true;
        }

        private boolean wrongAt(int code, int where) {
            faultCode = code;
            faultPlace = where;
            return false;
        }

        private void step() {
            while (at < length && (bytes[at] == 32 || bytes[at] == 10)) {
                at++;
            }
            tokenPlace = at;
            tokenWorth = 0;
            if (at >= length) {
                token = NOTHING;
            } else if (bytes[at] >= 'a' && bytes[at] <= 'z') {
                takeWord();
            } else if (bytes[at] >= '0' && bytes[at] <= '9') {
                takeNumber();
            } else {
                token = bytes[at] == ';' ? STOP : WRONG;
                at++;
            }
        }

        private void takeWord() {
            int shift = 25;
            token = WORD;
            while (at < length && bytes[at] >= 'a' && bytes[at] <= 'z') {
                if (shift < 0) {
                    token = WRONG;
                } else {
                    tokenWorth |= bytes[at] - 'a' + 1 << shift;
                    shift -= 5;
                }
                at++;
            }
        }

        private void takeNumber() {
            token = NUMBER;
            while (at < length && bytes[at] >= '0' && bytes[at] <= '9') {
                // Held at a bound that no number may reach, so that long ones don't wrap around.
                tokenWorth = tokenWorth >= TOO_GREAT / 10 ? TOO_GREAT : tokenWorth * 10 + bytes[at] - '0';
                at++;
            }
        }

        private int wordNumber() {
            for (int i = 0; i < WORDS.length && token == WORD; i++) {
                if (WORDS[i] == tokenWorth) {
                    return i;
                }
            }
            return NONE;
        }

        private boolean readLine() {
            int word = wordNumber();
            boolean right;
            if (word == NONE) {
                return wrongAt(1, tokenPlace);
            } else if (word == HAND_WORD) {
                right = readHand();
            } else if (word == KEY_WORD) {
                right = readKey();
            } else {
                right = readStep(word - STEP_WORDS);
            }
            if (!right) {
                return false;
            }
            step();
            return token == STOP || wrongAt(1, tokenPlace);
        }

        private boolean readName() {
            step();
            return token == WORD && wordNumber() == NONE || wrongAt(1, tokenPlace);
        }

        private boolean readNumber(int least, int most) {
            step();
            if (token != NUMBER) {
                return wrongAt(1, tokenPlace);
            }
            return tokenWorth >= least && tokenWorth <= most || wrongAt(2, tokenPlace);
        }

        /** Two N: the KEY's BITS are the token's worth then, its place is the first one's. */
        private boolean readTwo() {
            if (!readNumber(0, MAX_FIRST)) {
                return false;
            }
            int first = tokenWorth;
            int where = tokenPlace;
            if (!readNumber(1, MAX_SECOND)) {
                return false;
            }
            tokenWorth = Floats.keyBits(first, tokenWorth);
            tokenPlace = where;
            return true;
        }

        private boolean readHand() {
            if (script.hands >= MAX_HANDS) {
                return wrongAt(2, tokenPlace);
            }
            if (!readName()) {
                return false;
            }
            if (script.handNamed(tokenWorth) != NONE) {
                return wrongAt(3, tokenPlace);
            }
            script.addHand(tokenWorth);
            return true;
        }

        private boolean readKey() {
            if (script.told.size >= MAX_TOLD) {
                return wrongAt(2, tokenPlace);
            }
            if (!readTwo()) {
                return false;
            }
            int key = tokenWorth;
            if (script.tellsKey(key)) {
                return wrongAt(3, tokenPlace);
            }
            if (!readNumber(0, MAX_VALUE)) {
                return false;
            }
            script.addKey(key, tokenWorth);
            return true;
        }

        private boolean readStep(int kind) {
            if (script.steps >= MAX_STEPS) {
                return wrongAt(2, tokenPlace);
            }
            if (!readName()) {
                return false;
            }
            int hand = script.handNamed(tokenWorth);
            if (hand == NONE) {
                return wrongAt(4, tokenPlace);
            }
            if (kind == DO_OPEN || kind == DO_END || kind == DO_QUIT) {
                script.addStep(kind, hand, 0, 0, 0);
                return true;
            }
            if (!readTwo()) {
                return false;
            }
            int low = tokenWorth;
            int high = low;
            if (kind == DO_SCAN) {
                if (!readTwo()) {
                    return false;
                }
                high = tokenWorth;
                if (low > high) {
                    return wrongAt(5, tokenPlace);
                }
            }
            boolean valued = kind == DO_SET || kind == DO_PUT;
            if (valued && !readNumber(0, MAX_VALUE)) {
                return false;
            }
            script.addStep(kind, hand, low, high, valued ? tokenWorth : 0);
            return true;
        }
    }

    /** The INDEX: KEYS by BITS in order, and bits of HANDS that have LOCKS at their places and at END. */
    private static final class Shelf {
        int size;
        final int[] bits = new int[MAX_KEYS];
        final int[] value = new int[MAX_KEYS];
        final int[] cutter = new int[MAX_KEYS];
        final int[] putter = new int[MAX_KEYS];
        final int[] gaps = new int[MAX_KEYS + 1];
        /** Who has the KEY shared or whole. */
        final int[] sharers = new int[MAX_KEYS];
        final int[] wholes = new int[MAX_KEYS];

        void copyFrom(Shelf other) {
            size = other.size;
            System.arraycopy(other.bits, 0, bits, 0, MAX_KEYS);
            System.arraycopy(other.value, 0, value, 0, MAX_KEYS);
            System.arraycopy(other.cutter, 0, cutter, 0, MAX_KEYS);
            System.arraycopy(other.putter, 0, putter, 0, MAX_KEYS);
            System.arraycopy(other.gaps, 0, gaps, 0, MAX_KEYS + 1);
            System.arraycopy(other.sharers, 0, sharers, 0, MAX_KEYS);
            System.arraycopy(other.wholes, 0, wholes, 0, MAX_KEYS);
        }

        int placeFrom(int key) {
            int at = 0;
            while (at < size && bits[at] < key) {
                at++;
            }
            return at;
        }

        boolean hasAt(int at, int key) {
            return at < size && bits[at] == key;
        }

        /** A KEY comes that nobody has yet; the GAP that it divides is at it and behind it then. */
        void insert(int at, int key, int worth) {
            if (size >= MAX_KEYS || at < 0 || at > size) {
                return;
            }
            gaps[size + 1] = gaps[size];
            for (int i = size; i > at; i--) {
                bits[i] = bits[i - 1];
                value[i] = value[i - 1];
                cutter[i] = cutter[i - 1];
                putter[i] = putter[i - 1];
                gaps[i] = gaps[i - 1];
                sharers[i] = sharers[i - 1];
                wholes[i] = wholes[i - 1];
            }
            bits[at] = key;
            value[at] = worth;
            cutter[at] = NOBODY;
            putter[at] = NOBODY;
            sharers[at] = 0;
            wholes[at] = 0;
            size++;
        }

        void vanish(int at, int hand) {
            if (at < 0 || at >= size) {
                return;
            }
            gaps[at + 1] |= (gaps[at] | sharers[at]) & ~(1 << hand);
            size--;
            for (int i = at; i < size; i++) {
                bits[i] = bits[i + 1];
                value[i] = value[i + 1];
                cutter[i] = cutter[i + 1];
                putter[i] = putter[i + 1];
                gaps[i] = gaps[i + 1];
                sharers[i] = sharers[i + 1];
                wholes[i] = wholes[i + 1];
            }
            gaps[size] = gaps[size + 1];
        }

        /** All LOCKS of a HAND go, and nothing is put by it any more. */
        void release(int hand) {
            int others = ~(1 << hand);
            gaps[size] &= others;
            for (int i = 0; i < size; i++) {
                gaps[i] &= others;
                sharers[i] &= others;
                wholes[i] &= others;
                if (putter[i] == hand) {
                    putter[i] = NOBODY;
                }
            }
        }

        /** HANDS (bits) that stop a HAND from what it needs of a KEY, or of the GAP for it. */
        int blockers(int hand, int need, int key) {
            int at = 0;
            while (at < size && bits[at] < key) {
                at++;
            }
            int found = 0;
            if (need == NEED_GAP) {
                found = gaps[at];
            } else if (at < size && bits[at] == key) {
                found = need == NEED_WHOLE ? sharers[at] : wholes[at];
            }
            return found & ~(1 << hand);
        }

        /** 0 not, 1 shared, 2 whole. */
        int levelAt(int at, int hand) {
            return at < size ? (sharers[at] >> hand & 1) + (wholes[at] >> hand & 1) : 0;
        }

        int locksOf(int hand) {
            int found = gaps[size] >> hand & 1;
            for (int i = 0; i < size; i++) {
                found += (gaps[i] >> hand & 1) + (sharers[i] >> hand & 1);
            }
            return found;
        }

        int lockByNumber(int hand, int k) {
            int left = k;
            for (int i = 0; i <= size; i++) {
                if ((gaps[i] >> hand & 1) != 0) {
                    if (left == 0) {
                        return 10 * i;
                    }
                    left--;
                }
                int level = levelAt(i, hand);
                if (level != 0) {
                    if (left == 0) {
                        return 10 * i + level;
                    }
                    left--;
                }
            }
            return -2;
        }

        /** Whether some place, from one on to that behind the last KEY not above another, has no GAP of others. */
        boolean leavesGap(int hand, int from, int lastKey) {
            for (int i = from; i <= size; i++) {
                if ((gaps[i] & ~(1 << hand)) == 0) {
                    return true;
                }
                if (i < size && bits[i] > lastKey) {
                    return false;
                }
            }
            return false;
        }

        float widthAt(int at) {
            float ahead = at > 0 ? Floats.floatOf(bits[at - 1]) : 0;
            return Floats.floatOf(bits[at]) - ahead;
        }

        float middleAt(int at) {
            float ahead = at > 0 ? Floats.floatOf(bits[at - 1]) : 0;
            return (ahead + Floats.floatOf(bits[at])) / 2;
        }

        float keySum() {
            float found = 0;
            for (int i = 0; i < size; i++) {
                found += Floats.floatOf(bits[i]);
            }
            return found;
        }

        int valueSum() {
            int found = 0;
            for (int i = 0; i < size; i++) {
                found += value[i];
            }
            return found;
        }

        int cutKeys() {
            int found = 0;
            for (int i = 0; i < size; i++) {
                found += cutter[i] == NOBODY ? 0 : 1;
            }
            return found;
        }
    }

    /** The HANDS: how they are, what each did last and needs, and the line of those that WAIT. */
    private static final class Crew {
        int size;
        final int[] state = new int[MAX_HANDS];
        final int[] outcome = new int[MAX_HANDS];
        final int[] deaths = new int[MAX_HANDS];
        final int[] kind = new int[MAX_HANDS];
        final int[] low = new int[MAX_HANDS];
        final int[] high = new int[MAX_HANDS];
        final int[] value = new int[MAX_HANDS];
        final int[] need = new int[MAX_HANDS];
        final int[] needKey = new int[MAX_HANDS];
        final int[] line = new int[MAX_HANDS];
        int lineLength;

        void begin(int hands) {
            size = hands;
            lineLength = 0;
            Arrays.fill(state, SHUT);
            Arrays.fill(outcome, NONE);
            Arrays.fill(deaths, 0);
        }

        void copyFrom(Crew other) {
            size = other.size;
            lineLength = other.lineLength;
            System.arraycopy(other.state, 0, state, 0, MAX_HANDS);
            System.arraycopy(other.outcome, 0, outcome, 0, MAX_HANDS);
            System.arraycopy(other.deaths, 0, deaths, 0, MAX_HANDS);
            System.arraycopy(other.kind, 0, kind, 0, MAX_HANDS);
            System.arraycopy(other.low, 0, low, 0, MAX_HANDS);
            System.arraycopy(other.high, 0, high, 0, MAX_HANDS);
            System.arraycopy(other.value, 0, value, 0, MAX_HANDS);
            System.arraycopy(other.need, 0, need, 0, MAX_HANDS);
            System.arraycopy(other.needKey, 0, needKey, 0, MAX_HANDS);
            System.arraycopy(other.line, 0, line, 0, MAX_HANDS);
        }

        boolean has(int hand) {
            return hand >= 0 && hand < size;
        }

        boolean mayDo(int hand, int what) {
            if (!has(hand)) {
                return false;
            }
            if (what == DO_OPEN) {
                return state[hand] == SHUT;
            }
            return what == DO_QUIT ? state[hand] != SHUT : state[hand] == OPENED;
        }

        void keepTask(int hand, int what, int first, int second, int worth) {
            kind[hand] = what;
            low[hand] = first;
            high[hand] = second;
            value[hand] = worth;
        }

        void joinLine(int hand, int what, int key) {
            if (lineLength < MAX_HANDS) {
                state[hand] = WAITING;
                need[hand] = what;
                needKey[hand] = key;
                line[lineLength] = hand;
                lineLength++;
            }
        }

        void leaveLine(int hand) {
            int left = 0;
            for (int i = 0; i < lineLength; i++) {
                if (line[i] != hand) {
                    line[left] = line[i];
                    left++;
                }
            }
            lineLength = left;
        }

        int inState(int asked) {
            int found = 0;
            for (int i = 0; i < size; i++) {
                found += state[i] == asked ? 1 : 0;
            }
            return found;
        }

        int firstOpen() {
            for (int i = 0; i < size; i++) {
                if (state[i] == OPENED) {
                    return i;
                }
            }
            return NONE;
        }

        int allDeaths() {
            int found = 0;
            for (int i = 0; i < size; i++) {
                found += deaths[i];
            }
            return found;
        }
    }

    /** What HANDS changed since they are OPEN, the latest last, each change in one number. */
    private static final class Diary {
        static final int VALUE_SET = 0;
        static final int KEY_CUT = 1;
        static final int KEY_CAME = 2;
        static final int CUT_UNDONE = 3;

        int length;
        final long[] changes = new long[MAX_CHANGES];

        void note(int hand, int what, int key, int oldValue) {
            if (length < MAX_CHANGES) {
                changes[length] = (long) hand << 50 | (long) what << 48 | (long) oldValue << 32 | key;
                length++;
            }
        }

        int handOf(int i) {
            return (int) (changes[i] >> 50);
        }

        int whatOf(int i) {
            return (int) (changes[i] >> 48) & 3;
        }

        int oldValueOf(int i) {
            return (int) (changes[i] >> 32) & 0xffff;
        }

        int keyOf(int i) {
            return (int) changes[i];
        }

        int changesBy(int hand) {
            int found = 0;
            for (int i = 0; i < length; i++) {
                found += handOf(i) == hand ? 1 : 0;
            }
            return found;
        }

        void forget(int hand) {
            int left = 0;
            for (int i = 0; i < length; i++) {
                if ((int) (changes[i] >> 50) != hand) {
                    changes[left] = changes[i];
                    left++;
                }
            }
            length = left;
        }

        void copyFrom(Diary other) {
            length = other.length;
            System.arraycopy(other.changes, 0, changes, 0, length);
        }
    }

    /** INDEX and HANDS, and all that HANDS do. */
    private static final class World {
        final Shelf shelf = new Shelf();
        final Crew crew = new Crew();
        final Diary diary = new Diary();
        /** Nothing waits for GAPS. */
        boolean gapless;
        /** seek and scan need and take no LOCKS. */
        boolean looseReads;
        /** Whoever would WAIT DIES. */
        boolean impatient;
        /** What stopped the latest attempt that came to WAIT. */
        private int need;
        private int needKey;

        void begin(Script script) {
            shelf.copyFrom(script.told);
            crew.begin(script.hands);
            diary.length = 0;
            gapless = false;
            looseReads = false;
            impatient = false;
        }

        void copyFrom(World other) {
            shelf.copyFrom(other.shelf);
            crew.copyFrom(other.crew);
            diary.copyFrom(other.diary);
            gapless = other.gapless;
            looseReads = other.looseReads;
            impatient = other.impatient;
        }

        int act(int hand, int kind, int low, int high, int value) {
            if (!crew.mayDo(hand, kind)) {
                return NONE;
            }
            int got = 0;
            if (kind == DO_OPEN) {
                crew.state[hand] = OPENED;
            } else if (kind == DO_END) {
                dropCut(hand);
                shut(hand);
            } else if (kind == DO_QUIT) {
                undo(hand);
                shut(hand);
            } else {
                crew.keepTask(hand, kind, low, high, value);
                got = attempt(hand);
                got = got == WAITS ? waitOrDie(hand) : got;
            }
            if (got == NONE) {
                return NONE;
            }
            crew.outcome[hand] = got;
            if (kind == DO_END || kind == DO_QUIT || got == DIED) {
                wake();
            }
            return got;
        }

        /** HANDS that WAIT try anew, the longest first, from the first one again whenever one comes on. */
        private void wake() {
            int at = 0;
            for (int turn = 0; turn < FAR && at < crew.lineLength; turn++) {
                int hand = crew.line[at];
                int got = attempt(hand);
                if (got == WAITS && need == crew.need[hand] && needKey == crew.needKey[hand]) {
                    at++;
                    continue;
                }
                crew.leaveLine(hand);
                crew.state[hand] = OPENED;
                crew.outcome[hand] = got == WAITS ? waitOrDie(hand) : got;
                at = 0;
            }
        }

        /** Does what a HAND last came to do, or takes what it can on the way and answers WAITS. */
        private int attempt(int hand) {
            switch (crew.kind[hand]) {
                case DO_SCAN:
                    return readThrough(hand);
                case DO_PUT:
                    return bring(hand);
                default:
                    return reach(hand);
            }
        }

        private int stoppedAt(int what, int key) {
            need = what;
            needKey = key;
            return WAITS;
        }

        private int readThrough(int hand) {
            int mine = 1 << hand;
            int total = 0;
            int at = shelf.placeFrom(crew.low[hand]);
            while (at < shelf.size && shelf.bits[at] <= crew.high[hand]) {
                if (!looseReads) {
                    shelf.gaps[at] |= mine;
                    if ((shelf.wholes[at] & ~mine) != 0) {
                        return stoppedAt(NEED_SHARED, shelf.bits[at]);
                    }
                    shelf.sharers[at] |= mine;
                }
                total += shelf.cutter[at] == hand ? 0 : shelf.value[at];
                at++;
            }
            if (!looseReads) {
                shelf.gaps[at] |= mine;
            }
            return total;
        }

        /** seek, grab, set and cut. */
        private int reach(int hand) {
            int kind = crew.kind[hand];
            int key = crew.low[hand];
            int at = shelf.placeFrom(key);
            boolean there = shelf.hasAt(at, key);
            if (kind != DO_SEEK || !looseReads) {
                if (!there) {
                    shelf.gaps[at] |= 1 << hand;
                } else if (!locked(hand, at, kind != DO_SEEK)) {
                    return stoppedAt(kind == DO_SEEK ? NEED_SHARED : NEED_WHOLE, key);
                }
            }
            if (!there || shelf.cutter[at] == hand) {
                return ABSENT;
            }
            int old = shelf.value[at];
            if (kind == DO_SET) {
                diary.note(hand, Diary.VALUE_SET, key, old);
                shelf.value[at] = crew.value[hand];
            } else if (kind == DO_CUT) {
                diary.note(hand, Diary.KEY_CUT, key, old);
                shelf.cutter[at] = hand;
            }
            return old;
        }

        /** Locks a KEY that is there, if that is FREE. */
        private boolean locked(int hand, int at, boolean whole) {
            int mine = 1 << hand;
            if (((whole ? shelf.sharers[at] : shelf.wholes[at]) & ~mine) != 0) {
                return false;
            }
            shelf.sharers[at] |= mine;
            shelf.wholes[at] |= whole ? mine : 0;
            return true;
        }

        /** put. */
        private int bring(int hand) {
            int key = crew.low[hand];
            int at = shelf.placeFrom(key);
            if (shelf.hasAt(at, key)) {
                if (shelf.cutter[at] == hand) {
                    diary.note(hand, Diary.CUT_UNDONE, key, shelf.value[at]);
                    shelf.cutter[at] = NOBODY;
                    shelf.value[at] = crew.value[hand];
                    return shelf.size;
                }
                return locked(hand, at, false) ? ABSENT : stoppedAt(NEED_SHARED, key);
            }
            if (shelf.size >= MAX_KEYS) {
                return NONE;
            }
            if (!gapless && (shelf.gaps[at] & ~(1 << hand)) != 0) {
                return stoppedAt(NEED_GAP, key);
            }
            diary.note(hand, Diary.KEY_CAME, key, 0);
            shelf.insert(at, key, crew.value[hand]);
            shelf.putter[at] = hand;
            locked(hand, at, true);
            return shelf.size;
        }

        private int waitOrDie(int hand) {
            if (impatient || reaches(shelf.blockers(hand, need, needKey), hand)) {
                undo(hand);
                shut(hand);
                crew.deaths[hand]++;
                return DIED;
            }
            crew.joinLine(hand, need, needKey);
            return WAITS;
        }

        /** Whether one of some HANDS (bits) is a HAND, or waits for it along others. */
        boolean reaches(int hands, int hand) {
            int found = hands;
            for (int round = 0; round < MAX_HANDS; round++) {
                for (int i = 0; i < crew.size; i++) {
                    if (i != hand && (found >> i & 1) != 0 && crew.state[i] == WAITING) {
                        found |= shelf.blockers(i, crew.need[i], crew.needKey[i]);
                    }
                }
            }
            return (found >> hand & 1) != 0;
        }

        int waitsFor(int hand) {
            if (crew.state[hand] != WAITING) {
                return 0;
            }
            return shelf.blockers(hand, crew.need[hand], crew.needKey[hand]);
        }

        private void dropCut(int hand) {
            int at = 0;
            for (int i = 0; i < MAX_KEYS && at < shelf.size; i++) {
                if (shelf.cutter[at] == hand) {
                    shelf.vanish(at, hand);
                } else {
                    at++;
                }
            }
        }

        private void undo(int hand) {
            for (int i = diary.length - 1; i >= 0; i--) {
                int at = shelf.placeFrom(diary.keyOf(i));
                if (diary.handOf(i) != hand || !shelf.hasAt(at, diary.keyOf(i))) {
                    continue;
                }
                switch (diary.whatOf(i)) {
                    case Diary.VALUE_SET:
                        shelf.value[at] = diary.oldValueOf(i);
                        break;
                    case Diary.KEY_CUT:
                        shelf.cutter[at] = NOBODY;
                        break;
                    case Diary.CUT_UNDONE:
                        shelf.value[at] = diary.oldValueOf(i);
                        shelf.cutter[at] = hand;
                        break;
                    default:
                        shelf.vanish(at, hand);
                        break;
                }
            }
        }

        private void shut(int hand) {
            crew.leaveLine(hand);
            crew.state[hand] = SHUT;
            shelf.release(hand);
            diary.forget(hand);
        }

        int allLocks() {
            int found = 0;
            for (int i = 0; i < crew.size; i++) {
                found += shelf.locksOf(i);
            }
            return found;
        }
    }

    /** A World and how far the STEPS of the TEXT have come in it. */
    private static final class Course {
        static final int FRESH = 0;
        static final int KEPT = 1;
        static final int DONE = 2;
        static final int LEFT_OUT = 3;

        final World world = new World();
        final int[] mark = new int[MAX_STEPS];
        final int[] answer = new int[MAX_STEPS];
        /** How many STEPS have been come to. */
        int come;
        /** The STEP that is come to in the place of the next one, and that in its. */
        int swapAt = NONE;

        void begin(Script script) {
            world.begin(script);
            Arrays.fill(mark, FRESH);
            Arrays.fill(answer, NOT_DONE);
            come = 0;
            swapAt = NONE;
        }

        void copyFrom(Course other) {
            world.copyFrom(other.world);
            System.arraycopy(other.mark, 0, mark, 0, MAX_STEPS);
            System.arraycopy(other.answer, 0, answer, 0, MAX_STEPS);
            come = other.come;
            swapAt = other.swapAt;
        }

        /** RUN of so many STEPS. */
        void go(Script script, int n) {
            int left = n;
            for (int turn = 0; turn < FAR; turn++) {
                int step = firstReady(script);
                if (step == NONE) {
                    if (left <= 0 || come >= script.steps) {
                        break;
                    }
                    left--;
                    step = comeToNext();
                    if (step >= script.steps || mark[step] == LEFT_OUT) {
                        continue;
                    }
                    if (world.crew.state[script.hand[step]] == WAITING) {
                        mark[step] = KEPT;
                        continue;
                    }
                }
                mark[step] = DONE;
                answer[step] = world.act(script.hand[step], script.kind[step], script.low[step],
                    script.high[step], script.value[step]);
            }
        }

        private int comeToNext() {
            int step = come;
            come++;
            if (swapAt == NONE) {
                return step;
            }
            return step == swapAt ? step + 1 : step == swapAt + 1 ? swapAt : step;
        }

        /** The first STEP kept for later whose HAND WAITS no more. */
        private int firstReady(Script script) {
            for (int i = 0; i < script.steps; i++) {
                if (mark[i] == KEPT && world.crew.state[script.hand[i]] != WAITING) {
                    return i;
                }
            }
            return NONE;
        }

        int firstFresh(Script script, int hand) {
            for (int i = 0; i < script.steps; i++) {
                if (mark[i] == FRESH && script.hand[i] == hand) {
                    return i;
                }
            }
            return NONE;
        }

        int marked(Script script, int asked) {
            int found = 0;
            for (int i = 0; i < script.steps; i++) {
                found += mark[i] == asked ? 1 : 0;
            }
            return found;
        }

        /** How many STEPS were answered that their HANDS WAIT or DIED. */
        int hinderedSteps(Script script) {
            int found = 0;
            for (int i = 0; i < script.steps; i++) {
                found += answer[i] == WAITS || answer[i] == DIED ? 1 : 0;
            }
            return found;
        }
    }

    /** What comes of the TEXT from the INDEX told on, beside what is. */
    private static final class Trials {
        final Course course = new Course();
        /** Whether what follows is known of the TEXT. */
        boolean measured;
        int matches;
        final int[] firstOrder = new int[MAX_HANDS];
        private final int[] order = new int[MAX_HANDS];
        private final Shelf aim = new Shelf();

        /** TRIED. */
        int hindered(Script script, int what, int hand) {
            course.begin(script);
            course.world.gapless = what == 1;
            course.world.looseReads = what == 3;
            course.world.impatient = what == 4;
            for (int i = 0; i < script.steps; i++) {
                if (what == 2 && script.hand[i] == hand) {
                    course.mark[i] = Course.LEFT_OUT;
                }
            }
            course.go(script, MAX_STEPS);
            return course.hinderedSteps(script);
        }

        int hinderedSwapped(Script script, int step) {
            course.begin(script);
            course.swapAt = step;
            course.go(script, MAX_STEPS);
            return course.hinderedSteps(script);
        }

        int firstCulprit(Script script) {
            course.begin(script);
            course.go(script, MAX_STEPS);
            if (course.world.crew.allDeaths() == 0) {
                return -2;
            }
            for (int i = 0; i < script.steps; i++) {
                course.begin(script);
                course.mark[i] = Course.LEFT_OUT;
                course.go(script, MAX_STEPS);
                if (course.world.crew.allDeaths() == 0) {
                    return i;
                }
            }
            return -3;
        }

        /** Ten times BY CHANCE: in how many some HAND DIES. */
        int deadlyPlays(Script script, int seed) {
            int last = seed;
            int found = 0;
            for (int i = 0; i < 10; i++) {
                last = play(script, last);
                found += course.world.crew.allDeaths() > 0 ? 1 : 0;
            }
            return found;
        }

        /** BY CHANCE once: the number that it ends with. */
        int play(Script script, int seed) {
            course.begin(script);
            int last = seed;
            for (int turn = 0; turn < MAX_STEPS; turn++) {
                int able = ableHands(script);
                int many = Integer.bitCount(able);
                if (many == 0) {
                    break;
                }
                last = (int) (last * 1103515245L + 12345L & 0x7fffffffL);
                int step = course.firstFresh(script, bitAt(able, last / 65536 % many));
                if (step == NONE) {
                    break;
                }
                course.mark[step] = Course.DONE;
                course.answer[step] = course.world.act(script.hand[step], script.kind[step], script.low[step],
                    script.high[step], script.value[step]);
            }
            return last;
        }

        private int ableHands(Script script) {
            int found = 0;
            for (int i = 0; i < script.steps; i++) {
                if (course.mark[i] == Course.FRESH && course.world.crew.state[script.hand[i]] != WAITING) {
                    found |= 1 << script.hand[i];
                }
            }
            return found;
        }

        /** The number of the bit that is set and has so many set ones below it. */
        private static int bitAt(int bits, int k) {
            int left = k;
            for (int i = 0; i < 31; i++) {
                if ((bits >> i & 1) != 0) {
                    if (left == 0) {
                        return i;
                    }
                    left--;
                }
            }
            return NONE;
        }

        /** What SAME asks for: how KEYS and VALUES come out by RUN of all STEPS. */
        void runOut(Script script) {
            if (measured) {
                return;
            }
            course.begin(script);
            course.go(script, MAX_STEPS);
            for (int turn = 0; turn < FAR; turn++) {
                int hand = course.world.crew.firstOpen();
                if (hand == NONE) {
                    break;
                }
                course.world.act(hand, DO_END, 0, 0, 0);
                course.go(script, 0);
            }
            aim.copyFrom(course.world.shelf);
        }

        /** SAME behind runOut, and the first order by which it comes to that. */
        void matchOrders(Script script) {
            if (measured) {
                return;
            }
            measured = true;
            matches = 0;
            for (int i = 0; i < script.hands; i++) {
                order[i] = i;
            }
            boolean more = true;
            for (int turn = 0; turn < FAR && more; turn++) {
                goAlone(script);
                if (comesToAim()) {
                    if (matches == 0) {
                        System.arraycopy(order, 0, firstOrder, 0, MAX_HANDS);
                    }
                    matches++;
                }
                more = nextOrder(script.hands);
            }
        }

        /** ALONE, HANDS one behind another in the order. */
        private void goAlone(Script script) {
            World world = course.world;
            world.begin(script);
            for (int k = 0; k < script.hands; k++) {
                int hand = order[k];
                for (int i = 0; i < script.steps; i++) {
                    if (script.hand[i] == hand) {
                        world.act(hand, script.kind[i], script.low[i], script.high[i], script.value[i]);
                    }
                }
                world.act(hand, DO_END, 0, 0, 0);
            }
        }

        private boolean comesToAim() {
            Shelf got = course.world.shelf;
            if (got.size != aim.size) {
                return false;
            }
            for (int i = 0; i < aim.size; i++) {
                if (got.bits[i] != aim.bits[i] || got.value[i] != aim.value[i]) {
                    return false;
                }
            }
            return true;
        }

        /** The order that follows, by its first HAND, then the next one and so on. */
        private boolean nextOrder(int hands) {
            int at = hands - 2;
            while (at >= 0 && order[at] > order[at + 1]) {
                at--;
            }
            if (at < 0) {
                return false;
            }
            int other = hands - 1;
            while (other > at && order[other] < order[at]) {
                other--;
            }
            exchange(at, other);
            int last = hands - 1;
            for (int first = at + 1; first < last; first++) {
                exchange(first, last);
                last--;
            }
            return true;
        }

        private void exchange(int one, int other) {
            int held = order[one];
            order[one] = order[other];
            order[other] = held;
        }
    }

    /** All that a SNAPSHOT keeps. */
    private static final class Desk {
        final Course course = new Course();
        final byte[] tape = new byte[MAX_TAPE];
        int tapeLength;

        void append(int number) {
            for (int shift = 24; shift >= 0 && tapeLength < MAX_TAPE; shift -= 8) {
                tape[tapeLength] = (byte) (number >> shift);
                tapeLength++;
            }
        }

        void copyFrom(Desk other) {
            course.copyFrom(other.course);
            System.arraycopy(other.tape, 0, tape, 0, MAX_TAPE);
            tapeLength = other.tapeLength;
        }
    }
}
