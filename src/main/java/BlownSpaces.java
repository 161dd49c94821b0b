import java.util.Arrays;

/** Classes that meet on spaces, as the document tells: its words are used here as they stand there. */
public final class BlownSpaces {
    public static final int BAD = -1, NOT = -2, FULL = -3, STATE = -5;
    public static final long VOID = Long.MIN_VALUE, GONE = Long.MIN_VALUE + 1L;

    private static final int MISSING = -11, OTHER_SORT = -12, OUTSIDE = -13, BELOW = -14;
    private static final int FAULTY = -100, CANNOT_BE = -200, NO_FAULT = -1;
    private static final int PRODUCT = 0, CURVED = 1, CONICS = 2;
    private static final int CLASS = 0, MINUS = 1, TIMES = 2, PART = 3, PULLED = 4, DUAL = 5;
    private static final int MEETS = 0, TURNS = 1, TELLS = 2;
    private static final int MOST_CLASSES = 8, MOST_EXTRAS = 3, MOST_POWER = 6, LAST_FIGURE = 9;
    private static final int MOST_LOTS = 50, MOST_OF_CURVE = 99, ALL_CONDITIONS = 5;

    /** The CODE of each LETTER alone. */
    private static final int[] UNITS = {1, 10, 100, 1000, 10000, 100000};

    /**
     * At 6 q + left: how many TERMS in q LETTERS have a SIZE below left, which is how many stand
     * ahead of one that leaves that much of n to the LETTERS behind the first of these q.
     */
    private static final int[] AHEAD = {
        0, 0, 0, 0, 0, 0,
        0, 1, 2, 3, 4, 5,
        0, 1, 3, 6, 10, 15,
        0, 1, 4, 10, 20, 35,
        0, 1, 5, 15, 35, 70,
        0, 1, 6, 21, 56, 126,
        0, 1, 7, 28, 84, 210
    };

    /** The KIND above each KIND; none above CLASS. */
    private static final int[] ABOVE = {-1, CLASS, CLASS, CLASS, TIMES, MINUS};

    /** At 3 KIND + ACT: the body that runs, of the KIND itself or of the next one above that has one. */
    private static final int[] BODIES = {
        10, 11, 12,
        10, 20, 12,
        30, 11, 12,
        10, 50, 12,
        41, 11, 40,
        10, 20, 60
    };

    private final Holding now = new Holding();
    private final Holding kept = new Holding();
    private boolean imaged = false;
    private final Sums sums = new Sums();
    private final Changes changes = new Changes();
    private final Tape tape = new Tape();
    private final Deeds deeds = new Deeds();
    private final Paper sheet = new Paper();
    private final Lists lists = new Lists();
    private final Bodies bodies = new Bodies();

    public BlownSpaces() {
        now.shape.become(PRODUCT, 2, 0, 0);
        sums.terms.layOut(now.shape);
    }

    // ---- the space

    public int product(int a, int b, int c) {
        if (a < 1 || a > 5 || b < 0 || b > 5) {
            return BAD;
        }
        int third = b == 0 ? 0 : c;
        if (third < 0 || third > 5 || a + b + third > 5) {
            return BAD;
        }
        return makeAnew(PRODUCT, a, b, third);
    }

    public int blow() {
        Shape shape = now.shape;
        if (shape.sort != PRODUCT) {
            return STATE;
        }
        if (shape.extras >= MOST_EXTRAS) {
            return FULL;
        }
        takeOneLetterMore();
        return shape.extras;
    }

    public int curved() {
        return makeAnew(CURVED, 3, 0, 0);
    }

    public int curve(int d, int g) {
        Shape shape = now.shape;
        if (shape.sort != CURVED) {
            return STATE;
        }
        if (d < 1 || d > 9 || g < 0 || g > 9) {
            return BAD;
        }
        if (shape.extras >= MOST_EXTRAS) {
            return FULL;
        }
        int curve = shape.extras;
        shape.degrees[curve] = d;
        shape.genera[curve] = g;
        takeOneLetterMore();
        return curve;
    }

    public int conics() {
        return makeAnew(CONICS, 5, 0, 0);
    }

    public int space(int what) {
        switch (what) {
            case 0: return now.shape.sort;
            case 1: return now.shape.dimension();
            case 2: return now.shape.letterCount();
            case 3: return now.shape.eulerNumber();
            case 4: return now.shape.extras;
            case 5: return sums.terms.many;
            default: return BAD;
        }
    }

    public long worth(int code) {
        int at = sums.terms.find(code);
        return at < 0 ? VOID : sums.terms.worths[at];
    }

    public int term(int k) {
        if (k < 0) {
            return BAD;
        }
        return k < sums.terms.many ? sums.terms.codes[k] : NOT;
    }

    private int makeAnew(int sort, int a, int b, int c) {
        now.shape.become(sort, a, b, c);
        now.many = 0;
        sums.terms.layOut(now.shape);
        changes.forget();
        return now.shape.dimension();
    }

    /** The new LETTER stands behind all others, so that CODES stay what they were. */
    private void takeOneLetterMore() {
        int before = sums.terms.many;
        now.shape.extras++;
        sums.terms.layOut(now.shape);
        for (int k = 0; k < now.many; k++) {
            now.classes[k].widen(sums.terms, before);
        }
        changes.forget();
    }

    // ---- classes

    public int set(int one, int what, int v) {
        Klass klass = now.classAt(one);
        if (klass == null || what < 0 || what > 1) {
            return BAD;
        }
        if (v < 0 || v > (what == 0 ? DUAL : LAST_FIGURE)) {
            return BAD;
        }
        int was = klass.become(what, v);
        if (was != v) {
            changes.remember(one, what, was, v);
        }
        return was;
    }

    public int tell(int one, int code, long v) {
        Klass klass = now.classAt(one);
        int at = sums.terms.find(code);
        if (klass == null || at < 0) {
            return BAD;
        }
        klass.told[at] = v;
        return 1;
    }

    public int of(int one, int what) {
        Klass klass = now.classAt(one);
        if (klass == null) {
            return BAD;
        }
        switch (what) {
            case 0: return klass.kind;
            case 1: return klass.figure;
            case 2: return klass.shown(sums.terms);
            case 3: return klass.greatestSize(sums.terms);
            case 4: return klass.leastSize(sums.terms);
            default: return BAD;
        }
    }

    public long number(int one, int code) {
        Klass klass = now.classAt(one);
        int at = sums.terms.find(code);
        return klass == null || at < 0 ? VOID : klass.numberAt(sums.terms, at);
    }

    public int drop() {
        if (now.many == 0) {
            return STATE;
        }
        now.many--;
        changes.forget();
        return now.many;
    }

    public int canonical() {
        if (now.many >= MOST_CLASSES) {
            return FULL;
        }
        sums.makeCanonical(now.shape, sums.all);
        bringAll();
        changes.forget();
        return now.many - 1;
    }

    /** Row 'all' becomes one CLASS more, if there is a place for it. */
    private void bringAll() {
        Klass klass = now.bring();
        if (klass != null) {
            System.arraycopy(sums.all, 0, klass.told, 0, sums.terms.many);
        }
    }

    // ---- what is met

    public long met(int one) {
        Klass klass = now.classAt(one);
        if (klass == null) {
            return VOID;
        }
        sums.takeNumbers(klass, sums.all);
        return sums.metOf(sums.all);
    }

    public long meets(int one, int other) {
        Klass first = now.classAt(one);
        Klass second = now.classAt(other);
        if (first == null || second == null) {
            return VOID;
        }
        sums.takeNumbers(first, sums.all);
        sums.multiplyBy(second);
        return sums.metOf(sums.all);
    }

    public long meetsAll(int list) {
        if (!lists.isThere(list)) {
            return VOID;
        }
        return multiplyListed(list) ? sums.metOf(sums.all) : GONE;
    }

    public long self(int one, int k) {
        Klass klass = now.classAt(one);
        if (klass == null || k < 0 || k > MOST_POWER) {
            return VOID;
        }
        sums.makePower(klass, k);
        return sums.metOf(sums.all);
    }

    public int like(int one, int other) {
        Klass first = now.classAt(one);
        Klass second = now.classAt(other);
        if (first == null || second == null) {
            return BAD;
        }
        sums.takeNumbers(first, sums.all);
        sums.takeNumbers(second, sums.by);
        return sums.areLike(sums.all, sums.by) ? 1 : 0;
    }

    /** Row 'all' becomes the PRODUCT of the CLASSES that a LIST tells; false, if a number of it is of none. */
    private boolean multiplyListed(int list) {
        sums.makeOne(sums.all);
        for (int i = 0; i < lists.sizeOf(list); i++) {
            Klass klass = now.classAt(lists.valueAt(list, i));
            if (klass == null) {
                return false;
            }
            sums.multiplyBy(klass);
        }
        return true;
    }

    // ---- chern rows, what is cut out

    public long chern(int code) {
        int at = sums.terms.find(code);
        if (at < 0) {
            return VOID;
        }
        if (!now.shape.isBareProduct()) {
            return GONE;
        }
        sums.makeChern(now.shape);
        return sums.chern[at];
    }

    public long cutOut(int list, int what) {
        if (what < 0 || what > 3 || !lists.isThere(list)) {
            return VOID;
        }
        if (!now.shape.isBareProduct() || !canCutOut(list)) {
            return GONE;
        }
        int depth = now.shape.dimension() - lists.sizeOf(list);
        switch (what) {
            case 0: return depth;
            case 1: return canonicalOfCut(list, depth);
            case 2: return eulerOfCut(list, depth);
            default: return depth == 1 ? 1L - eulerOfCut(list, depth) / 2L : GONE;
        }
    }

    private boolean canCutOut(int list) {
        if (lists.sizeOf(list) > now.shape.dimension()) {
            return false;
        }
        for (int i = 0; i < lists.sizeOf(list); i++) {
            Klass klass = now.classAt(lists.valueAt(list, i));
            if (klass == null || !klass.isOfSizeOne(sums.terms)) {
                return false;
            }
        }
        return true;
    }

    private long canonicalOfCut(int list, int depth) {
        if (!multiplyListed(list)) {
            return GONE;
        }
        sums.makeCanonical(now.shape, sums.by);
        for (int k = 0; k < depth; k++) {
            sums.multiply(sums.all, sums.by);
        }
        return sums.metOf(sums.all);
    }

    private long eulerOfCut(int list, int depth) {
        if (!multiplyListed(list)) {
            return GONE;
        }
        sums.makeChern(now.shape);
        for (int i = 0; i < lists.sizeOf(list); i++) {
            Klass klass = now.classAt(lists.valueAt(list, i));
            if (klass != null) {
                sums.takeNumbers(klass, sums.by);
                sums.divideChern(sums.by);
            }
        }
        sums.keepSize(sums.chern, depth);
        sums.multiply(sums.all, sums.chern);
        return sums.metOf(sums.all);
    }

    // ---- conics, curves

    public long through(int i, int j, int list) {
        if (i < 0 || i > 5 || j < 0 || j > 5) {
            return VOID;
        }
        if (list != -1 && !lists.isThere(list)) {
            return VOID;
        }
        int told = list == -1 ? 0 : lists.sizeOf(list);
        if (now.shape.sort != CONICS || told % 2 != 0 || i + j + told / 2 != ALL_CONDITIONS) {
            return GONE;
        }
        for (int k = 0; k < told; k++) {
            long value = lists.valueAt(list, k);
            if (value < 0L || value > MOST_OF_CURVE) {
                return GONE;
            }
        }
        sums.makeOne(sums.all);
        multiplyConditions(i, 1L, 0L);
        multiplyConditions(j, 2L, -1L);
        for (int k = 0; k + 1 < told; k += 2) {
            long degree = lists.valueAt(list, k);
            long dual = lists.valueAt(list, k + 1);
            multiplyConditions(1, dual + 2L * degree, -degree);
        }
        return sums.metOf(sums.all);
    }

    /** Row 'all' times (ofA a + ofV v), so many times. */
    private void multiplyConditions(int times, long ofA, long ofV) {
        sums.makeZero(sums.by);
        sums.putAtLetter(sums.by, 0, ofA);
        sums.putAtLetter(sums.by, 1, ofV);
        for (int k = 0; k < times; k++) {
            sums.multiply(sums.all, sums.by);
        }
    }

    public int fits(int one, int curve, long x, int what) {
        Klass klass = now.classAt(one);
        if (klass == null) {
            return BAD;
        }
        if (now.shape.sort != CURVED) {
            return STATE;
        }
        if (curve < 0 || curve >= now.shape.extras || what < 0 || what > 1) {
            return BAD;
        }
        int unit = UNITS[1 + curve];
        long twice = numberOfCode(klass, 1 + 2 * unit);
        long thrice = numberOfCode(klass, 3 * unit);
        int d = now.shape.degrees[curve];
        int g = now.shape.genera[curve];
        sums.takeNumbers(klass, sums.all);
        long others = sums.metOf(sums.all) - twice * Shape.worthTwice(d) - thrice * Shape.worthThrice(d, g);
        return countFits(twice, thrice, x - others, what);
    }

    /** DEGREES and GENERA by which the CURVE's own two TERMS are MET as x: how many, or the first. */
    private static int countFits(long twice, long thrice, long x, int what) {
        int many = 0;
        int first = NOT;
        for (int d = 1; d <= 9; d++) {
            for (int g = 0; g <= 9; g++) {
                if (twice * Shape.worthTwice(d) + thrice * Shape.worthThrice(d, g) == x) {
                    first = many == 0 ? 10 * d + g : first;
                    many++;
                }
            }
        }
        return what == 0 ? many : first;
    }

    private long numberOfCode(Klass klass, int code) {
        int at = sums.terms.find(code);
        return at < 0 ? 0L : klass.numberAt(sums.terms, at);
    }

    public int judge(int list) {
        if (!lists.isOne(list)) {
            return BAD;
        }
        if (!lists.isThere(list)) {
            return MISSING;
        }
        int size = lists.sizeOf(list);
        for (int k = 0; k < size && k < now.many; k++) {
            sums.takeNumbers(now.classes[k], sums.all);
            if (sums.metOf(sums.all) != lists.valueAt(list, k)) {
                return k;
            }
        }
        return size < now.many ? 100 + size : NOT;
    }

    public long lots(int n, int z, int what) {
        if (n < 1 || n > MOST_LOTS || what < 0 || what > 1) {
            return VOID;
        }
        if (now.many == 0) {
            return GONE;
        }
        int seed = z;
        long together = 0L;
        long zeros = 0L;
        for (int lot = 0; lot < n; lot++) {
            sums.makeOne(sums.all);
            for (int k = 0; k < now.shape.dimension(); k++) {
                seed = seed * 1103515245 + 12345;
                sums.multiplyBy(now.classes[(seed & 0x7fffffff) / 65536 % now.many]);
            }
            long value = sums.metOf(sums.all);
            together += value;
            zeros += value == 0L ? 1L : 0L;
        }
        return what == 0 ? together : zeros;
    }

    // ---- the tape, the paper

    public int feed(int letter) {
        if (letter < 32 || letter > 126) {
            return BAD;
        }
        return tape.add((char) letter) ? tape.length : FULL;
    }

    public int wipe() {
        int had = tape.length;
        tape.length = 0;
        return had;
    }

    public int read() {
        int fault = tape.readClass(now.shape, sums.terms, sums.all);
        tape.length = 0;
        if (fault != NO_FAULT) {
            return FAULTY - fault;
        }
        if (now.many >= MOST_CLASSES) {
            return FULL;
        }
        bringAll();
        changes.forget();
        return now.many - 1;
    }

    public int acts() {
        int fault = deeds.readFrom(tape);
        tape.length = 0;
        if (fault != NO_FAULT) {
            return FAULTY - fault;
        }
        int before = now.many;
        for (int k = 0; k < deeds.many; k++) {
            if (!canDo(deeds.words[k], deeds.firsts[k], deeds.seconds[k])) {
                now.many = before;
                return CANNOT_BE - k;
            }
            doOne(deeds.words[k], now.classes[deeds.firsts[k]], deeds.seconds[k]);
        }
        changes.forget();
        return deeds.many;
    }

    private boolean canDo(int word, int first, int second) {
        if (now.many >= MOST_CLASSES || now.classAt(first) == null) {
            return false;
        }
        if (word == Deeds.POWER || word == Deeds.PART_OF) {
            return second <= MOST_POWER;
        }
        return now.classAt(second) != null;
    }

    private void doOne(int word, Klass first, int second) {
        Klass other = now.classAt(second);
        sums.takeNumbers(first, sums.all);
        if (word == Deeds.POWER) {
            sums.makePower(first, second);
        } else if (word == Deeds.PART_OF) {
            sums.keepSize(sums.all, second);
        } else if (other != null && word == Deeds.TIMES_BY) {
            sums.multiplyBy(other);
        } else if (other != null) {
            sums.takeNumbers(other, sums.by);
            sums.addTimes(sums.all, sums.by, word == Deeds.SUM ? 1L : -1L);
        }
        bringAll();
    }

    public int write(int one) {
        Klass klass = now.classAt(one);
        if (klass == null) {
            return BAD;
        }
        sums.takeNumbers(klass, sums.all);
        sheet.length = 0;
        for (int k = 0; k < sums.terms.many; k++) {
            if (sums.all[k] != 0L) {
                sheet.addMember(now.shape, sums.terms.codes[k], sums.all[k]);
            }
        }
        if (sheet.length == 0) {
            sheet.add('0');
        }
        return sheet.length;
    }

    public int paper(int i) {
        return i < 0 || i >= sheet.kept() ? NOT : sheet.bytes[i];
    }

    // ---- lists

    public int list(int list, int sort, int n) {
        if (!lists.isOne(list) || sort < Lists.NONE || sort > Lists.LONGS) {
            return BAD;
        }
        if (sort != Lists.NONE && n > Lists.MOST) {
            return BAD;
        }
        if (sort != Lists.NONE && n < 0) {
            return BELOW;
        }
        lists.become(list, sort, sort == Lists.NONE ? 0 : n);
        return 1;
    }

    public int put(int list, int i, long v) {
        if (!lists.isOne(list)) {
            return BAD;
        }
        if (!lists.isThere(list)) {
            return MISSING;
        }
        if (!lists.hasPlace(list, i)) {
            return OUTSIDE;
        }
        lists.place(list, i, v);
        return 1;
    }

    public long get(int list, int i) {
        return lists.isThere(list) && lists.hasPlace(list, i) ? lists.valueAt(list, i) : VOID;
    }

    public int copy(int list, int i, int other, int j, int n) {
        if (!lists.isOne(list) || !lists.isOne(other)) {
            return BAD;
        }
        if (!lists.isThere(list) || !lists.isThere(other)) {
            return MISSING;
        }
        if (lists.sorts[list] != lists.sorts[other]) {
            return OTHER_SORT;
        }
        if (!lists.hasRoom(list, i, n) || !lists.hasRoom(other, j, n)) {
            return OUTSIDE;
        }
        System.arraycopy(lists.numbers[list], i, lists.numbers[other], j, n);
        return n;
    }

    // ---- acts of classes, changes, the image

    public int act(int one, int act, int x) {
        Klass klass = now.classAt(one);
        if (klass == null || act < MEETS || act > TELLS) {
            return 0;
        }
        return bodies.begin(klass, one, act, x);
    }

    public int trace(int i) {
        return i < 0 || i >= bodies.many ? NOT : bodies.begun[i];
    }

    public int taken(int one, int k) {
        Klass klass = now.classAt(one);
        if (klass == null || k < CLASS || k > DUAL) {
            return BAD;
        }
        if (!klass.isUnder(k)) {
            return STATE;
        }
        return k >= TIMES && k <= PULLED ? klass.figure : one;
    }

    public int undo() {
        if (changes.done == 0) {
            return STATE;
        }
        changes.done--;
        changes.undone++;
        tellChange(changes.done, changes.olds);
        return changes.done;
    }

    public int redo() {
        if (changes.undone == 0) {
            return STATE;
        }
        tellChange(changes.done, changes.news);
        changes.done++;
        changes.undone--;
        return changes.undone;
    }

    private void tellChange(int at, int[] values) {
        if (at < 0 || at >= values.length) {
            return;
        }
        Klass klass = now.classAt(changes.ones[at]);
        if (klass != null) {
            klass.become(changes.whats[at], values[at]);
        }
    }

    public int image() {
        kept.takeOver(now);
        imaged = true;
        return kept.many;
    }

    public int alike() {
        if (!imaged) {
            return STATE;
        }
        return now.isAs(kept, sums.terms.many) ? 1 : 0;
    }

    public int back() {
        if (!imaged) {
            return STATE;
        }
        now.takeOver(kept);
        sums.terms.layOut(now.shape);
        changes.forget();
        return now.many;
    }

    public int count(int what) {
        switch (what) {
            case 0: return now.many;
            case 1: return changes.done;
            case 2: return changes.undone;
            case 3: return tape.length;
            case 4: return sheet.kept();
            case 5: return lists.howManyThere();
            default: return BAD;
        }
    }

    /** What THE SPACE is: its SORT, and what its LETTERS stand for. */
    private static final class Shape {
        int sort;
        /** CURVED and CONICS are held as one FACTOR of their whole DIMENSION: it has the LETTER a. */
        int factors;
        /** POINTS or CURVES. */
        int extras;
        final int[] dims = new int[MOST_EXTRAS];
        final int[] degrees = new int[MOST_EXTRAS];
        final int[] genera = new int[MOST_EXTRAS];

        void become(int newSort, int a, int b, int c) {
            sort = newSort;
            extras = 0;
            factors = 1 + (b > 0 ? 1 : 0) + (c > 0 ? 1 : 0);
            dims[0] = a;
            dims[1] = b;
            dims[2] = c;
            Arrays.fill(degrees, 0);
            Arrays.fill(genera, 0);
        }

        int dimension() {
            return dims[0] + dims[1] + dims[2];
        }

        int letterCount() {
            return factors + extras + (sort == CONICS ? 1 : 0);
        }

        boolean isBareProduct() {
            return sort == PRODUCT && extras == 0;
        }

        char signOf(int letter) {
            if (letter < factors) {
                return (char) ('a' + letter);
            }
            if (sort == CONICS) {
                return 'v';
            }
            return (char) ((sort == PRODUCT ? 'p' : 'u') + letter - factors);
        }

        /** The LETTER that has this sign, -1 if there is none. */
        int letterOf(int sign) {
            for (int k = 0; k < letterCount(); k++) {
                if (signOf(k) == sign) {
                    return k;
                }
            }
            return -1;
        }

        int eulerNumber() {
            if (sort == CONICS) {
                return 12;
            }
            if (sort == PRODUCT) {
                return (dims[0] + 1) * (dims[1] + 1) * (dims[2] + 1) + (dimension() - 1) * extras;
            }
            int together = 4;
            for (int k = 0; k < extras && k < genera.length; k++) {
                together += 2 - 2 * genera[k];
            }
            return together;
        }

        long canonicalAt(int letter) {
            if (sort == CONICS) {
                return letter == 0 ? -6L : 2L;
            }
            if (letter >= 0 && letter < factors && letter < dims.length) {
                return -(dims[letter] + 1L);
            }
            return sort == PRODUCT ? dimension() - 1L : 1L;
        }

        /** WORTH of a TERM with these powers, which are n together. */
        long worthOf(int[] powers) {
            boolean whole = true;
            for (int k = 0; k < factors && k < dims.length; k++) {
                whole = whole && powers[k] == dims[k];
            }
            if (whole) {
                return 1L;
            }
            switch (sort) {
                case PRODUCT: return worthByPoints(powers);
                case CURVED: return worthByCurves(powers);
                default: return worthByConics(powers[1]);
            }
        }

        private long worthByPoints(int[] powers) {
            int n = dimension();
            for (int k = factors; k < factors + extras && k < powers.length; k++) {
                if (powers[k] == n) {
                    return n % 2 != 0 ? 1L : -1L;
                }
            }
            return 0L;
        }

        private long worthByCurves(int[] powers) {
            for (int k = 0; k < extras && k < genera.length; k++) {
                int power = powers[1 + k];
                if (power == 3) {
                    return worthThrice(degrees[k], genera[k]);
                }
                if (power == 2 && powers[0] == 1) {
                    return worthTwice(degrees[k]);
                }
            }
            return 0L;
        }

        private static long worthByConics(int power) {
            switch (power) {
                case 3: return 4L;
                case 4: return 18L;
                case 5: return 51L;
                default: return 0L;
            }
        }

        /** WORTH of a with a CURVE's LETTER twice. */
        static long worthTwice(int d) {
            return -(long) d;
        }

        /** WORTH of a CURVE's LETTER three times. */
        static long worthThrice(int d, int g) {
            return 2L - 2L * g - 4L * d;
        }

        void takeOver(Shape other) {
            sort = other.sort;
            factors = other.factors;
            extras = other.extras;
            System.arraycopy(other.dims, 0, dims, 0, MOST_EXTRAS);
            System.arraycopy(other.degrees, 0, degrees, 0, MOST_EXTRAS);
            System.arraycopy(other.genera, 0, genera, 0, MOST_EXTRAS);
        }

        boolean isAs(Shape other) {
            boolean same = sort == other.sort && factors == other.factors && extras == other.extras;
            for (int k = 0; k < MOST_EXTRAS; k++) {
                same = same && dims[k] == other.dims[k] && degrees[k] == other.degrees[k]
                    && genera[k] == other.genera[k];
            }
            return same;
        }
    }

    /** All TERMS of THE SPACE, in order. */
    private static final class Terms {
        /** How many there are with 6 LETTERS and n 5. */
        static final int MOST = 462;
        static final int MOST_LETTERS = 6, MOST_SIZE = 5;
        int n;
        int letters;
        int many;
        final int[] codes = new int[MOST];
        final int[] sizes = new int[MOST];
        final long[] worths = new long[MOST];
        /** Whether only LETTERS of FACTORS have a power above 0. */
        final boolean[] plain = new boolean[MOST];
        /** TERMS by SIZE, the least ahead; those of SIZE s begin at starts[s] and end ahead of starts[s + 1]. */
        final int[] bySize = new int[MOST];
        final int[] starts = new int[MOST_SIZE + 2];
        private final int[] powers = new int[MOST_LETTERS];

        void layOut(Shape shape) {
            n = shape.dimension();
            letters = shape.letterCount();
            many = 0;
            Arrays.fill(powers, 0);
            powers[0] = n;
            boolean more = true;
            for (int k = 0; k < MOST && more; k++) {
                addTerm(shape);
                more = stepOn();
            }
            orderBySize();
        }

        private void addTerm(Shape shape) {
            int code = 0;
            int size = 0;
            int ofFactors = 0;
            for (int k = 0; k < letters && k < MOST_LETTERS; k++) {
                code += powers[k] * UNITS[k];
                size += powers[k];
                ofFactors += k < shape.factors ? powers[k] : 0;
            }
            codes[many] = code;
            sizes[many] = size;
            plain[many] = ofFactors == size;
            worths[many] = size == n ? shape.worthOf(powers) : 0L;
            many++;
        }

        /** To the next TERM in order: the last power goes down by 1, and what n leaves goes to the LETTER behind it. */
        private boolean stepOn() {
            int last = -1;
            int size = 0;
            for (int k = 0; k < letters && k < MOST_LETTERS; k++) {
                size += powers[k];
                last = powers[k] > 0 ? k : last;
            }
            if (last < 0) {
                return false;
            }
            powers[last]--;
            if (last + 1 < letters && last + 1 < MOST_LETTERS) {
                powers[last + 1] = n - size + 1;
            }
            return true;
        }

        private void orderBySize() {
            int at = 0;
            for (int size = 0; size <= MOST_SIZE; size++) {
                starts[size] = at;
                for (int k = 0; k < many; k++) {
                    if (sizes[k] == size) {
                        bySize[at] = k;
                        at++;
                    }
                }
            }
            starts[MOST_SIZE + 1] = at;
        }

        /** Which TERM has a CODE, -1 if there is no such one. */
        int find(int code) {
            if (code < 0) {
                return -1;
            }
            int rest = code;
            int left = n;
            int at = 0;
            for (int k = 0; k < letters; k++) {
                left -= rest % 10;
                rest /= 10;
                if (left < 0) {
                    return -1;
                }
                at += AHEAD[6 * (letters - k) + left];
            }
            return rest == 0 && at < many ? at : -1;
        }
    }

    /** A CLASS: its KIND, its FIGURE, what is TOLD of it. */
    private static final class Klass {
        int kind;
        int figure;
        final long[] told = new long[Terms.MOST];

        void clear() {
            kind = CLASS;
            figure = 0;
            Arrays.fill(told, 0L);
        }

        /** KIND (what 0) or FIGURE becomes v: what it was. */
        int become(int what, int v) {
            int was = what == 0 ? kind : figure;
            if (what == 0) {
                kind = v;
            } else {
                figure = v;
            }
            return was;
        }

        boolean isUnder(int above) {
            int at = kind;
            for (int k = 0; k < ABOVE.length && at >= 0 && at < ABOVE.length; k++) {
                if (at == above) {
                    return true;
                }
                at = ABOVE[at];
            }
            return false;
        }

        long numberAt(Terms terms, int at) {
            long v = told[at];
            switch (kind) {
                case MINUS: return -v;
                case TIMES: return v * (figure + 1L);
                case PART: return terms.sizes[at] == figure ? v : 0L;
                case PULLED: return terms.plain[at] ? v * (figure + 1L) : 0L;
                case DUAL: return terms.sizes[at] % 2 != 0 ? -v : v;
                default: return v;
            }
        }

        /** At how many TERMS its NUMBERS aren't 0. */
        int shown(Terms terms) {
            int many = 0;
            for (int k = 0; k < terms.many; k++) {
                many += numberAt(terms, k) != 0L ? 1 : 0;
            }
            return many;
        }

        int greatestSize(Terms terms) {
            int greatest = NOT;
            for (int k = 0; k < terms.many; k++) {
                if (numberAt(terms, k) != 0L) {
                    greatest = Math.max(greatest, terms.sizes[k]);
                }
            }
            return greatest;
        }

        int leastSize(Terms terms) {
            int least = NOT;
            for (int k = 0; k < terms.many; k++) {
                if (numberAt(terms, k) != 0L && (least == NOT || terms.sizes[k] < least)) {
                    least = terms.sizes[k];
                }
            }
            return least;
        }

        boolean isOfSizeOne(Terms terms) {
            for (int k = 0; k < terms.many; k++) {
                if (terms.sizes[k] != 1 && numberAt(terms, k) != 0L) {
                    return false;
                }
            }
            return true;
        }

        /**
         * A LETTER more: the TERMS without it are those of before, in the order of before. Each stands
         * as far behind as before or farther, so that going from the last one on none is lost.
         */
        void widen(Terms terms, int before) {
            int from = Math.min(before, terms.many);
            int unit = UNITS[terms.letters - 1];
            for (int k = terms.many - 1; k >= 0; k--) {
                long v = 0L;
                if (terms.codes[k] < unit && from > 0) {
                    from--;
                    v = told[from];
                }
                told[k] = v;
            }
        }
    }

    /** THE SPACE with its CLASSES: as it is now, or as THE IMAGE has it. */
    private static final class Holding {
        final Shape shape = new Shape();
        final Klass[] classes = new Klass[MOST_CLASSES];
        int many;

        Holding() {
            for (int k = 0; k < MOST_CLASSES; k++) {
                classes[k] = new Klass();
            }
        }

        /** The CLASS with a number, null if there is no such one. */
        Klass classAt(long number) {
            return number < 0L || number >= many ? null : classes[(int) number];
        }

        /** A CLASS more, null if there are as many as can be. */
        Klass bring() {
            if (many >= MOST_CLASSES) {
                return null;
            }
            Klass klass = classes[many];
            klass.clear();
            many++;
            return klass;
        }

        void takeOver(Holding other) {
            shape.takeOver(other.shape);
            many = other.many;
            for (int k = 0; k < many; k++) {
                classes[k].kind = other.classes[k].kind;
                classes[k].figure = other.classes[k].figure;
                System.arraycopy(other.classes[k].told, 0, classes[k].told, 0, Terms.MOST);
            }
        }

        boolean isAs(Holding other, int terms) {
            if (many != other.many || !shape.isAs(other.shape)) {
                return false;
            }
            for (int k = 0; k < many; k++) {
                Klass mine = classes[k];
                Klass its = other.classes[k];
                if (mine.kind != its.kind || mine.figure != its.figure) {
                    return false;
                }
                for (int t = 0; t < terms; t++) {
                    if (mine.told[t] != its.told[t]) {
                        return false;
                    }
                }
            }
            return true;
        }
    }

    /** Rows of NUMBERS, one for each TERM, and what is done with them; all are made once and used again. */
    private static final class Sums {
        final Terms terms = new Terms();
        final long[] all = new long[Terms.MOST];
        final long[] by = new long[Terms.MOST];
        final long[] chern = new long[Terms.MOST];
        private final long[] piece = new long[Terms.MOST];
        private final long[] made = new long[Terms.MOST];
        private final int[] held = new int[Terms.MOST];

        void makeZero(long[] row) {
            Arrays.fill(row, 0L);
        }

        /** The TERM without powers stands last of all. */
        void makeOne(long[] row) {
            Arrays.fill(row, 0L);
            if (terms.many > 0) {
                row[terms.many - 1] = 1L;
            }
        }

        void putAtLetter(long[] row, int letter, long v) {
            int at = letter < 0 || letter >= terms.letters ? -1 : terms.find(UNITS[letter]);
            if (at >= 0) {
                row[at] = v;
            }
        }

        void takeNumbers(Klass klass, long[] row) {
            for (int k = 0; k < terms.many; k++) {
                row[k] = klass.numberAt(terms, k);
            }
        }

        void addTimes(long[] row, long[] other, long factor) {
            for (int k = 0; k < terms.many; k++) {
                row[k] += other[k] * factor;
            }
        }

        void keepSize(long[] row, int size) {
            for (int k = 0; k < terms.many; k++) {
                row[k] = terms.sizes[k] == size ? row[k] : 0L;
            }
        }

        /** A row becomes its PRODUCT with another one. */
        void multiply(long[] row, long[] other) {
            int holding = hold(other);
            Arrays.fill(made, 0, terms.many, 0L);
            for (int k = 0; k < terms.many; k++) {
                if (row[k] != 0L) {
                    addShifted(k, row[k], other, holding);
                }
            }
            System.arraycopy(made, 0, row, 0, terms.many);
        }

        /** Keeps where a row isn't 0, the least SIZE ahead: how many places. */
        private int hold(long[] row) {
            int holding = 0;
            for (int q = 0; q < terms.many; q++) {
                if (row[terms.bySize[q]] != 0L) {
                    held[holding] = terms.bySize[q];
                    holding++;
                }
            }
            return holding;
        }

        /** A TERM with a number times the held places of a row, added to the row 'made'. */
        private void addShifted(int term, long number, long[] other, int holding) {
            int left = terms.n - terms.sizes[term];
            int code = terms.codes[term];
            for (int q = 0; q < holding && terms.sizes[held[q]] <= left; q++) {
                int at = terms.find(code + terms.codes[held[q]]);
                if (at >= 0) {
                    made[at] += number * other[held[q]];
                }
            }
        }

        /** Row 'all' becomes its PRODUCT with a CLASS. */
        void multiplyBy(Klass klass) {
            takeNumbers(klass, by);
            multiply(all, by);
        }

        /** Row 'all' becomes the PRODUCT of so many of a CLASS. */
        void makePower(Klass klass, int k) {
            makeOne(all);
            takeNumbers(klass, by);
            for (int times = 0; times < k; times++) {
                multiply(all, by);
            }
        }

        long metOf(long[] row) {
            long together = 0L;
            for (int q = terms.starts[terms.n]; q < terms.many; q++) {
                int at = terms.bySize[q];
                together += row[at] * terms.worths[at];
            }
            return together;
        }

        boolean areLike(long[] one, long[] other) {
            for (int k = 0; k < terms.many; k++) {
                if (metWith(one, k) != metWith(other, k)) {
                    return false;
                }
            }
            return true;
        }

        /** MET of a row's PRODUCT with a single TERM: only what fills up its SIZE to n counts. */
        private long metWith(long[] row, int term) {
            int left = terms.n - terms.sizes[term];
            long together = 0L;
            for (int q = terms.starts[left]; q < terms.starts[left + 1]; q++) {
                int other = terms.bySize[q];
                int at = row[other] == 0L ? -1 : terms.find(terms.codes[term] + terms.codes[other]);
                if (at >= 0) {
                    together += row[other] * terms.worths[at];
                }
            }
            return together;
        }

        void makeCanonical(Shape shape, long[] row) {
            makeZero(row);
            for (int k = 0; k < terms.letters; k++) {
                putAtLetter(row, k, shape.canonicalAt(k));
            }
        }

        /** Row 'chern' becomes CHERN of a PRODUCT without POINTS. */
        void makeChern(Shape shape) {
            makeOne(chern);
            for (int k = 0; k < shape.factors && k < shape.dims.length; k++) {
                makeOne(piece);
                putAtLetter(piece, k, 1L);
                for (int times = 0; times <= shape.dims[k]; times++) {
                    multiply(chern, piece);
                }
            }
        }

        /** Row 'chern' times (1 less a row plus its square less ..); the row has SIZE 1 alone. */
        void divideChern(long[] row) {
            System.arraycopy(chern, 0, piece, 0, terms.many);
            long sign = -1L;
            for (int k = 1; k <= terms.n; k++) {
                multiply(piece, row);
                addTimes(chern, piece, sign);
                sign = -sign;
            }
        }
    }

    /** What set() made otherwise, the eldest ahead: those that are done, then those that are undone. */
    private static final class Changes {
        static final int MOST = 12;
        final int[] ones = new int[MOST];
        final int[] whats = new int[MOST];
        final int[] olds = new int[MOST];
        final int[] news = new int[MOST];
        int done;
        int undone;

        void forget() {
            done = 0;
            undone = 0;
        }

        void remember(int one, int what, int was, int is) {
            if (done >= MOST) {
                dropEldest();
            }
            ones[done] = one;
            whats[done] = what;
            olds[done] = was;
            news[done] = is;
            done++;
            undone = 0;
        }

        private void dropEldest() {
            System.arraycopy(ones, 1, ones, 0, MOST - 1);
            System.arraycopy(whats, 1, whats, 0, MOST - 1);
            System.arraycopy(olds, 1, olds, 0, MOST - 1);
            System.arraycopy(news, 1, news, 0, MOST - 1);
            done = MOST - 1;
        }
    }

    /** THE TAPE, and how it is read as a CLASS. */
    private static final class Tape {
        static final int MOST = 80, MOST_FIGURES = 4, END = -1;
        private final char[] bytes = new char[MOST];
        int length;
        private int at;

        boolean add(char sign) {
            if (length >= MOST) {
                return false;
            }
            bytes[length] = sign;
            length++;
            return true;
        }

        int signAt(int place) {
            return place < 0 || place >= length ? END : bytes[place];
        }

        static boolean isFigure(int sign) {
            return sign >= '0' && sign <= '9';
        }

        /** As many of a .. z as stand from a place on. */
        int wordLength(int from) {
            int many = 0;
            while (many < MOST && signAt(from + many) >= 'a' && signAt(from + many) <= 'z') {
                many++;
            }
            return many;
        }

        boolean hasWord(int from, int many, String word) {
            if (many != word.length()) {
                return false;
            }
            for (int k = 0; k < many; k++) {
                if (signAt(from + k) != word.charAt(k)) {
                    return false;
                }
            }
            return true;
        }

        /** The row becomes what THE TAPE tells: the FAULT, or NO_FAULT. */
        int readClass(Shape shape, Terms terms, long[] row) {
            Arrays.fill(row, 0L);
            boolean minus = signAt(0) == '-';
            at = minus ? 1 : 0;
            for (int members = 0; members <= MOST; members++) {
                if (!readMember(shape, terms, minus, row)) {
                    return at;
                }
                int sign = signAt(at);
                if (sign == END) {
                    return NO_FAULT;
                }
                if (sign != '+' && sign != '-') {
                    return at;
                }
                minus = sign == '-';
                at++;
            }
            return at;
        }

        /** Whether a MEMBER stands here: adds it to the row; else the place is that of the FAULT. */
        private boolean readMember(Shape shape, Terms terms, boolean minus, long[] row) {
            int begin = at;
            long number = 0L;
            for (int k = 0; k < MOST_FIGURES && isFigure(signAt(at)); k++) {
                number = number * 10L + signAt(at) - '0';
                at++;
            }
            if (at == begin) {
                number = 1L;
            }
            int code = readPowers(shape, terms.n);
            if (code < 0 || at == begin) {
                return false;
            }
            int term = terms.find(code);
            if (term >= 0) {
                row[term] += minus ? -number : number;
            }
            return true;
        }

        /**
         * The CODE of the POWERS that stand here, -1 if there is a FAULT in them. A LETTER that can't
         * follow ends them: what is looked for behind them finds no sign there, and the FAULT is the same.
         */
        private int readPowers(Shape shape, int n) {
            int code = 0;
            int size = 0;
            int least = 0;
            for (int k = 0; k < Terms.MOST_LETTERS; k++) {
                int letter = shape.letterOf(signAt(at));
                if (letter < least || letter >= UNITS.length || size >= n) {
                    return code;
                }
                at++;
                int power = 1;
                if (signAt(at) == '^') {
                    at++;
                    power = signAt(at) - '0';
                    if (power < 1 || power > 5 || size + power > n) {
                        return -1;
                    }
                    at++;
                }
                size += power;
                code += power * UNITS[letter];
                least = letter + 1;
            }
            return code;
        }
    }

    /** What THE TAPE tells to do, as ACTS. */
    private static final class Deeds {
        static final int SUM = 0, TIMES_BY = 1, LESS = 2, POWER = 3, PART_OF = 4;
        /** More than THE TAPE can hold. */
        static final int MOST = 12;
        final int[] words = new int[MOST];
        final int[] firsts = new int[MOST];
        final int[] seconds = new int[MOST];
        int many;

        /** The FAULT, or NO_FAULT. */
        int readFrom(Tape tape) {
            many = 0;
            int at = 0;
            for (int k = 0; k < MOST; k++) {
                int letters = tape.wordLength(at);
                int word = wordOf(tape, at, letters);
                if (word < 0) {
                    return at;
                }
                at += letters;
                int right = rightSigns(tape, at);
                if (right < 4) {
                    return at + right;
                }
                words[k] = word;
                firsts[k] = tape.signAt(at + 1) - '0';
                seconds[k] = tape.signAt(at + 3) - '0';
                many = k + 1;
                at += 4;
                if (tape.signAt(at) == Tape.END) {
                    return NO_FAULT;
                }
                if (tape.signAt(at) != ';') {
                    return at;
                }
                at++;
            }
            return at;
        }

        private static int wordOf(Tape tape, int at, int letters) {
            if (tape.hasWord(at, letters, "sum")) {
                return SUM;
            }
            if (tape.hasWord(at, letters, "times")) {
                return TIMES_BY;
            }
            if (tape.hasWord(at, letters, "minus")) {
                return LESS;
            }
            if (tape.hasWord(at, letters, "power")) {
                return POWER;
            }
            return tape.hasWord(at, letters, "part") ? PART_OF : -1;
        }

        /** How many signs of a blank, a figure, a blank, a figure stand from a place on as they are due. */
        private static int rightSigns(Tape tape, int at) {
            for (int k = 0; k < 4; k++) {
                int sign = tape.signAt(at + k);
                if (k % 2 == 0 ? sign != ' ' : !Tape.isFigure(sign)) {
                    return k;
                }
            }
            return 4;
        }
    }

    /** THE PAPER: counts all bytes of what is WRITTEN, holds the first ones. */
    private static final class Paper {
        static final int MOST = 200, MOST_FIGURES = 20;
        final char[] bytes = new char[MOST];
        int length;
        private final char[] figures = new char[MOST_FIGURES];

        int kept() {
            return Math.min(length, MOST);
        }

        void add(char sign) {
            if (length >= 0 && length < MOST) {
                bytes[length] = sign;
            }
            length++;
        }

        /** A TERM with its number, which isn't 0. */
        void addMember(Shape shape, int code, long number) {
            if (number < 0L) {
                add('-');
            } else if (length > 0) {
                add('+');
            }
            if (code == 0 || number != 1L && number != -1L) {
                addFigures(number);
            }
            int rest = code;
            for (int k = 0; k < shape.letterCount(); k++) {
                int power = rest % 10;
                rest /= 10;
                if (power > 0) {
                    add(shape.signOf(k));
                }
                if (power > 1) {
                    add('^');
                    add((char) ('0' + power));
                }
            }
        }

        /** The number without its sign; goes by numbers below 0, which all longs have a like of. */
        private void addFigures(long number) {
            long rest = number > 0L ? -number : number;
            int many = 0;
            for (int k = 0; k < MOST_FIGURES && (rest != 0L || k == 0); k++) {
                figures[k] = (char) ('0' - rest % 10L);
                rest /= 10L;
                many = k + 1;
            }
            for (int k = many - 1; k >= 0; k--) {
                add(figures[k]);
            }
        }
    }

    /** LISTS 0 .. 2. */
    private static final class Lists {
        static final int NONE = -1, INTS = 0, LONGS = 1, MANY = 3, MOST = 20;
        final int[] sorts = new int[MANY];
        private final int[] sizes = new int[MANY];
        final long[][] numbers = new long[MANY][MOST];

        Lists() {
            Arrays.fill(sorts, NONE);
        }

        boolean isOne(int list) {
            return list >= 0 && list < MANY;
        }

        boolean isThere(int list) {
            return isOne(list) && sorts[list] != NONE;
        }

        int sizeOf(int list) {
            return isOne(list) ? sizes[list] : 0;
        }

        boolean hasPlace(int list, int i) {
            return i >= 0 && i < sizeOf(list);
        }

        /** Whether n places from i on are all there. */
        boolean hasRoom(int list, int i, int n) {
            return n >= 0 && i >= 0 && i <= sizeOf(list) && n <= sizeOf(list) - i;
        }

        long valueAt(int list, int i) {
            return hasPlace(list, i) ? numbers[list][i] : 0L;
        }

        void become(int list, int sort, int n) {
            if (isOne(list)) {
                sorts[list] = sort;
                sizes[list] = n;
                Arrays.fill(numbers[list], 0L);
            }
        }

        void place(int list, int i, long v) {
            if (hasPlace(list, i)) {
                numbers[list][i] = sorts[list] == INTS ? (int) v : v;
            }
        }

        int howManyThere() {
            int there = 0;
            for (int k = 0; k < MANY; k++) {
                there += isThere(k) ? 1 : 0;
            }
            return there;
        }
    }

    /** The ACTS of a CLASS: their bodies, and THE TRACE of those that ran. */
    private static final class Bodies {
        static final int MOST = 24, DEEPEST = 40;
        final int[] begun = new int[MOST];
        int many;
        private int kind;
        private int number;
        private int figure;

        int begin(Klass klass, int one, int act, int x) {
            many = 0;
            kind = klass.kind;
            number = one;
            figure = klass.figure;
            return run(this, kind, act, x, 0);
        }

        private void note(int body) {
            if (many < MOST) {
                begun[many] = body;
                many++;
            }
        }

        /** The body of an ACT as a KIND has it; in a body a call goes by its own KIND, super by the one above the body's. */
        private static int run(Bodies own, int from, int act, int x, int depth) {
            int place = 3 * from + act;
            if (depth > DEEPEST || place < 0 || place >= BODIES.length) {
                return 0;
            }
            int body = BODIES[place];
            int deeper = depth + 1;
            own.note(body);
            switch (body) {
                case 10: return x + own.number;
                case 11: return run(own, own.kind, MEETS, x, deeper) * 2;
                case 12: return run(own, own.kind, TURNS, x, deeper) - own.figure;
                case 20: return run(own, CLASS, TURNS, x, deeper) ^ 3;
                case 30: return -run(own, CLASS, MEETS, x, deeper);
                case 40: return run(own, TIMES, TELLS, x + 1, deeper);
                case 41: return run(own, TIMES, MEETS, x, deeper) * 3;
                case 50: return run(own, CLASS, TURNS, x, deeper) + run(own, own.kind, MEETS, 2, deeper);
                case 60: return run(own, MINUS, TELLS, x, deeper) ^ own.figure;
                default: return 0;
            }
        }
    }
}
