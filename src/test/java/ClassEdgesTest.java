/** Promises 10 to 15: each sentence that names a boundary case. */
public final class ClassEdgesTest {
    private static final int BAD = BlownSpaces.BAD, NOT = BlownSpaces.NOT;
    private static final int FULL = BlownSpaces.FULL, STATE = BlownSpaces.STATE;
    private static final int LEAST = Integer.MIN_VALUE, MOST = Integer.MAX_VALUE;
    private static final long VOID = BlownSpaces.VOID;
    private static final int[] NO_CLASSES = {2, -1, 8, LEAST, MOST};

    public static void main(String[] args) throws ReflectiveOperationException {
        Edges.run(ClassEdgesTest.class);
    }

    private static BlownSpaces plane(String... classes) {
        BlownSpaces x = new BlownSpaces();
        for (int k = 0; k < classes.length; k++) {
            Due.is("read", Due.read(x, classes[k]), k);
        }
        return x;
    }

    private static BlownSpaces eight() {
        return plane("a", "2a", "3a", "4a", "5a", "6a", "7a", "8a");
    }

    private static void changesAre(BlownSpaces x, int done, int undone) {
        Due.is("to be undone", x.count(1), done);
        Due.is("to be done again", x.count(2), undone);
    }

    // ---- promise 10

    @Says(promise = 10, value = "KIND (what 0), FIGURE (1) of a CLASS becomes v: what it was. BAD: class, what, v.")
    static void p10_kindIs0To5() {
        for (int v : new int[] {-1, 6, 9, LEAST, MOST}) {
            Twins.keepEverywhere("kind " + v, x -> x.set(0, 0, v), BAD);
        }
        BlownSpaces x = plane("a");
        for (int v = 1; v <= 5; v++) {
            Due.is("what it was", x.set(0, 0, v), v - 1);
            Due.is("what it is", x.of(0, 0), v);
        }
        Due.is("what it was", x.set(0, 0, 0), 5);
        Due.is("figure stays", x.of(0, 1), 0);
    }

    @Says(promise = 10, value = {"KIND (what 0), FIGURE (1) of a CLASS becomes v: what it was. BAD: class, what, v.",
        "with a FIGURE (0 .. 9)"})
    static void p10_figureIs0To9() {
        for (int v : new int[] {-1, 10, LEAST, MOST}) {
            Twins.keepEverywhere("figure " + v, x -> x.set(0, 1, v), BAD);
        }
        BlownSpaces x = plane("a");
        for (int v = 1; v <= 9; v++) {
            Due.is("what it was", x.set(0, 1, v), v - 1);
            Due.is("what it is", x.of(0, 1), v);
        }
        Due.is("what it was", x.set(0, 1, 0), 9);
        Due.is("kind stays", x.of(0, 0), 0);
    }

    @Says(promise = 10, value = "BAD: class, what, v.")
    static void p10_whatIs0Or1() {
        for (int what : new int[] {-1, 2, LEAST, MOST}) {
            Twins.keepEverywhere("what " + what, x -> x.set(0, what, 1), BAD);
        }
    }

    @Says(promise = 10, value = {"BAD: class, what, v.", "BAD (-1): no such one, a number out of its range."})
    static void p10_onlyAClassThatIsThere() {
        for (int one : NO_CLASSES) {
            Twins.keepEverywhere("class " + one, x -> x.set(one, 0, 5), BAD);
            Twins.keepEverywhere("class " + one, x -> x.set(one, 1, 5), BAD);
        }
        BlownSpaces x = eight();
        Due.is("class 7", x.set(7, 0, 1), 0);
        Due.is("class 8", x.set(8, 0, 1), BAD);
        Due.is("none", new BlownSpaces().set(0, 0, 0), BAD);
    }

    @Says(promise = 10, value = {"telling what is so already is none", "and telling what is so already end nothing."})
    static void p10_tellingWhatIsSoAlreadyIsNoChangeAndEndsNone() {
        Twins.keep("kind 2", Rooms::plane, x -> x.set(0, 0, 2), 2);
        Twins.keep("figure 4", Rooms::plane, x -> x.set(0, 1, 4), 4);
        BlownSpaces x = plane("a");
        Due.is("kind 0", x.set(0, 0, 0), 0);
        Due.is("figure 0", x.set(0, 1, 0), 0);
        changesAre(x, 0, 0);
        x.set(0, 0, 1);
        x.set(0, 1, 1);
        x.undo();
        Due.is("kind 1", x.set(0, 0, 1), 1);
        Due.is("figure 0", x.set(0, 1, 0), 0);
        changesAre(x, 1, 1);
        Due.is("otherwise", x.set(0, 1, 2), 0);
        changesAre(x, 2, 0);
    }

    // ---- promise 11

    @Says(promise = 11, value = "TOLD number of a CLASS at a TERM becomes v: 1; it is no CHANGE. BAD: class, code.")
    static void p11_onlyAClassAndATermThatAreThere() {
        for (int one : NO_CLASSES) {
            Twins.keepEverywhere("class " + one, x -> x.tell(one, 0, 9L), BAD);
        }
        for (int code : new int[] {-1, 6, 1000, 1000000, LEAST, MOST}) {
            Twins.keepEverywhere("code " + code, x -> x.tell(0, code, 9L), BAD);
        }
        Due.is("no classes", new BlownSpaces().tell(0, 0, 1), BAD);
        BlownSpaces x = plane("0");
        Due.is("size n", x.tell(0, 2, 5), 1);
        Due.is("size n + 1", x.tell(0, 3, 6), BAD);
        Due.is("size 0", x.tell(0, 0, 7), 1);
        Due.is("no letter p", x.tell(0, 10, 8), BAD);
        Due.written(x, 0, "5a^2+7");
        x.blow();
        Due.is("letter p", x.tell(0, 10, 8), 1);
        Due.is("a and p", x.tell(0, 11, 9), 1);
        Due.is("size n + 1", x.tell(0, 12, 9), BAD);
        Due.written(x, 0, "5a^2+9ap+8p+7");
    }

    @Says(promise = 11, value = {"TOLD number of a CLASS at a TERM becomes v: 1; it is no CHANGE.",
        "tell() is no CHANGE and ends none that can be UNDONE or DONE AGAIN;"})
    static void p11_isNoChangeAndEndsNone() {
        BlownSpaces x = plane("a");
        Due.is("tell", x.tell(0, 1, 5), 1);
        changesAre(x, 0, 0);
        Due.is("nothing to undo", x.undo(), STATE);
        x.set(0, 0, 1);
        x.set(0, 0, 2);
        x.undo();
        Due.is("tell", x.tell(0, 1, 6), 1);
        Due.is("as it is", x.tell(0, 1, 6), 1);
        changesAre(x, 1, 1);
        Due.is("redo", x.redo(), 0);
        Due.is("kind", x.of(0, 0), 2);
        Due.is("undo", x.undo(), 1);
        Due.is("undo", x.undo(), 0);
        Due.is("what is told stays", x.number(0, 1), 6);
    }

    @Says(promise = 11, value = {"TOLD number of a CLASS at a TERM becomes v: 1;", "All numbers are longs that wrap."})
    static void p11_tellsAnyLong() {
        BlownSpaces x = plane("a");
        for (long v : new long[] {Long.MAX_VALUE, Long.MIN_VALUE, Long.MIN_VALUE + 1, 4294967296L, -1L, 0L}) {
            Due.is("tell", x.tell(0, 1, v), 1);
            Due.is("number", x.number(0, 1), v);
        }
        Due.is("told 0 shows nothing", x.of(0, 2), 0);
    }

    @Says(promise = 11, value = "TOLD number of a CLASS at a TERM becomes v")
    static void p11_tellsWhatIsToldNotTheNumber() {
        BlownSpaces x = plane("a");
        x.set(0, 0, 3);
        x.set(0, 1, 2);
        Due.is("tell, at a SIZE that is no part", x.tell(0, 1, 8), 1);
        Due.is("number", x.number(0, 1), 0);
        x.set(0, 0, 1);
        Due.is("number", x.number(0, 1), -8);
    }

    @Says(promise = 11, value = {"and TOLD numbers, one for each TERM.", "TOLD number of a CLASS at a TERM becomes v"})
    static void p11_eachTermHasItsOwnWhereThereAreTheMost() {
        for (int from = 0; from < 462; from += 66) {
            BlownSpaces x = new BlownSpaces();
            x.product(3, 1, 1);
            x.blow();
            x.blow();
            x.blow();
            Due.read(x, "0");
            for (int k = from; k < from + 66; k++) {
                Due.is("tell", x.tell(0, x.term(k), k + 1L), 1);
            }
            Due.is("terms", x.of(0, 2), 66);
            for (int k = from; k < from + 66; k++) {
                Due.is("number", x.number(0, x.term(k)), k + 1L);
            }
            x.tell(0, x.term(from), 0L);
            Due.is("one less", x.of(0, 2), 65);
        }
    }

    // ---- promise 12

    @Says(promise = 12, value = "KIND (what 0), FIGURE (1) of a CLASS, at how many TERMS its NUMBERS aren't 0 (2), the"
        + " greatest SIZE of these (3; NOT), the least (4; NOT). BAD.")
    static void p12_onlyAClassThatIsThereAndWhat0To4() {
        for (int one : NO_CLASSES) {
            for (int what = 0; what <= 4; what++) {
                int asked = what;
                Twins.keep("class " + one, Rooms::plane, x -> x.of(one, asked), BAD);
            }
        }
        for (int what : new int[] {-1, 5, LEAST, MOST}) {
            Twins.keepEverywhere("what " + what, x -> x.of(0, what), BAD);
        }
        Due.is("no classes", new BlownSpaces().of(0, 0), BAD);
        BlownSpaces x = eight();
        Due.is("class 7", x.of(7, 2), 1);
        Due.is("class 8", x.of(8, 2), BAD);
    }

    @Says(promise = 12, value = "at how many TERMS its NUMBERS aren't 0 (2), the greatest SIZE of these (3; NOT), the"
        + " least (4; NOT)")
    static void p12_aClassWithoutNumbersHasNoSizes() {
        BlownSpaces x = plane("0");
        Due.is("terms", x.of(0, 2), 0);
        Due.is("greatest", x.of(0, 3), NOT);
        Due.is("least", x.of(0, 4), NOT);
        x.tell(0, 0, 1);
        Due.is("terms", x.of(0, 2), 1);
        Due.is("greatest", x.of(0, 3), 0);
        Due.is("least", x.of(0, 4), 0);
        x.tell(0, 2, -1);
        Due.is("terms", x.of(0, 2), 2);
        Due.is("greatest", x.of(0, 3), 2);
        Due.is("least", x.of(0, 4), 0);
        x.tell(0, 0, 0);
        Due.is("terms", x.of(0, 2), 1);
        Due.is("greatest", x.of(0, 3), 2);
        Due.is("least", x.of(0, 4), 2);
        x.tell(0, 1, 3);
        Due.is("all but one", x.of(0, 2), 2);
        Due.is("greatest", x.of(0, 3), 2);
        Due.is("least", x.of(0, 4), 1);
    }

    @Says(promise = 12, value = "at how many TERMS its NUMBERS aren't 0 (2), the greatest SIZE of these (3; NOT), the"
        + " least (4; NOT)")
    static void p12_sizesWhereOrderIsNotBySize() {
        BlownSpaces x = new BlownSpaces();
        x.product(1, 1, 1);
        Due.read(x, "a+b^3");
        Due.is("the greatest stands behind", x.of(0, 3), 3);
        Due.is("the least stands ahead", x.of(0, 4), 1);
        Due.read(x, "a^2b+c");
        Due.is("the greatest stands ahead", x.of(1, 3), 3);
        Due.is("the least stands behind", x.of(1, 4), 1);
    }

    @Says(promise = 12, value = "at how many TERMS its NUMBERS aren't 0 (2), the greatest SIZE of these (3; NOT), the"
        + " least (4; NOT)")
    static void p12_whereTheTermsAreTheMost() {
        BlownSpaces x = new BlownSpaces();
        x.product(3, 1, 1);
        x.blow();
        x.blow();
        x.blow();
        Due.read(x, "a^5+abcpq+pqr+r");
        Due.is("terms", x.of(0, 2), 4);
        Due.is("greatest", x.of(0, 3), 5);
        Due.is("least", x.of(0, 4), 1);
        x.tell(0, 0, 1);
        Due.is("terms", x.of(0, 2), 5);
        Due.is("least", x.of(0, 4), 0);
        Due.read(x, "0");
        Due.is("terms", x.of(1, 2), 0);
        Due.is("greatest", x.of(1, 3), NOT);
        Due.is("least", x.of(1, 4), NOT);
    }

    @Says(promise = 12, value = "at how many TERMS its NUMBERS aren't 0 (2)")
    static void p12_countsNumbersNotWhatIsTold() {
        BlownSpaces x = plane("2a^2+3a+4");
        x.set(0, 0, 3);
        x.set(0, 1, 1);
        Due.is("part 1", x.of(0, 2), 1);
        Due.is("greatest", x.of(0, 3), 1);
        Due.is("least", x.of(0, 4), 1);
        x.set(0, 1, 3);
        Due.is("part 3", x.of(0, 2), 0);
        Due.is("greatest", x.of(0, 3), NOT);
        Due.is("least", x.of(0, 4), NOT);
        x.set(0, 0, 2);
        x.set(0, 1, 1);
        x.tell(0, 2, Long.MIN_VALUE);
        Due.is("twice the least long is 0", x.of(0, 2), 2);
        Due.is("greatest", x.of(0, 3), 1);
    }

    // ---- promise 13

    @Says(promise = 13, value = "NUMBER of a CLASS at a TERM. VOID: BAD: class, code.")
    static void p13_onlyAClassAndATermThatAreThere() {
        for (int one : NO_CLASSES) {
            Twins.keepEverywhere("class " + one, x -> x.number(one, 0), VOID);
        }
        for (int code : new int[] {-1, 6, 1000, 1000000, LEAST, MOST}) {
            Twins.keepEverywhere("code " + code, x -> x.number(0, code), VOID);
        }
        Due.is("no classes", new BlownSpaces().number(0, 0), VOID);
        BlownSpaces x = plane("4a^2+6");
        Due.is("size n", x.number(0, 2), 4);
        Due.is("size n + 1", x.number(0, 3), VOID);
        Due.is("not told", x.number(0, 1), 0);
        Due.is("size 0", x.number(0, 0), 6);
        Due.is("class 1", x.number(1, 0), VOID);
    }

    private static final String KINDS = "NUMBERS of a CLASS at a TERM by its KIND: 0 CLASS: as TOLD. 1 MINUS under CLASS:"
        + " 0 less that of a CLASS. 2 TIMES under CLASS: a CLASS's times (FIGURE plus 1). 3 PART under CLASS: a CLASS's,"
        + " if SIZE is FIGURE, else 0. 4 PULLED under TIMES: a TIMES's, if only LETTERS a, b, c have a power above 0, else"
        + " 0. 5 DUAL under MINUS: a MINUS's, if SIZE is odd, else a CLASS's.";

    @Says(promise = 13, value = {KINDS, "and TOLD numbers, one for each TERM."})
    static void p13_eachKindAtEachTerm() {
        for (int kind = 0; kind <= 5; kind++) {
            for (int figure : new int[] {0, 1, 2, 3, 4, 9}) {
                BlownSpaces x = new BlownSpaces();
                x.product(1, 1, 1);
                x.blow();
                everyNumber(x, kind, figure, 3);
                x.curved();
                x.curve(2, 1);
                x.curve(1, 1);
                everyNumber(x, kind, figure, 1);
                x = new BlownSpaces();
                x.conics();
                everyNumber(x, kind, figure, 1);
                x.product(1, 0, 0);
                x.blow();
                x.blow();
                everyNumber(x, kind, figure, 1);
            }
        }
    }

    /** So many LETTERS ahead are a, b, c. */
    private static void everyNumber(BlownSpaces x, int kind, int figure, int ofFactors) {
        Due.is("read", Due.read(x, "0"), 0);
        x.set(0, 0, kind);
        x.set(0, 1, figure);
        int unit = (int) Math.round(Math.pow(10, ofFactors));
        for (int k = 0; k < x.space(5); k++) {
            int code = x.term(k);
            long told = k % 2 == 0 ? 3 + k : -5 - k;
            x.tell(0, code, told);
            long want = numberOf(kind, figure, told, sizeOf(code), code < unit);
            Due.is("kind " + kind + ", figure " + figure + ", code " + code, x.number(0, code), want);
        }
    }

    private static int sizeOf(int code) {
        return code == 0 ? 0 : code % 10 + sizeOf(code / 10);
    }

    private static long numberOf(int kind, int figure, long told, int size, boolean plain) {
        switch (kind) {
            case 0: return told;
            case 1: return 0 - told;
            case 2: return told * (figure + 1);
            case 3: return size == figure ? told : 0;
            case 4: return plain ? told * (figure + 1) : 0;
            default: return size % 2 == 1 ? 0 - told : told;
        }
    }

    @Says(promise = 13, value = {"All numbers are longs that wrap.", "TIMES wraps."})
    static void p13_numbersWrap() {
        BlownSpaces x = plane("0");
        x.tell(0, 1, Long.MIN_VALUE);
        x.tell(0, 0, Long.MAX_VALUE);
        x.set(0, 0, 1);
        Due.is("0 less the least long", x.number(0, 1), Long.MIN_VALUE);
        Due.is("0 less the greatest", x.number(0, 0), -Long.MAX_VALUE);
        x.set(0, 0, 5);
        Due.is("dual of the least long", x.number(0, 1), Long.MIN_VALUE);
        x.set(0, 0, 2);
        Due.is("once", x.number(0, 0), Long.MAX_VALUE);
        x.set(0, 1, 1);
        Due.is("twice the greatest", x.number(0, 0), -2);
        Due.is("twice the least", x.number(0, 1), 0);
        x.set(0, 1, 9);
        Due.is("ten times the greatest", x.number(0, 0), -10);
        x.set(0, 0, 4);
        Due.is("pulled, ten times the greatest", x.number(0, 0), -10);
    }

    @Says(promise = 13, value = {"PULLED goes by the LETTERS that there are: a alone in CURVED and in CONICS.",
        "4 PULLED under TIMES: a TIMES's, if only LETTERS a, b, c have a power above 0, else 0."})
    static void p13_pulledGoesByTheLettersThatThereAre() {
        BlownSpaces x = new BlownSpaces();
        x.curved();
        x.curve(1, 0);
        Due.read(x, "2a^2+3au+4u+5");
        x.set(0, 0, 4);
        x.set(0, 1, 2);
        Due.written(x, 0, "6a^2+15");
        x.conics();
        Due.read(x, "2a^5+3av+4v^5+5");
        x.set(0, 0, 4);
        Due.written(x, 0, "2a^5+5");
        x.product(1, 1, 1);
        x.blow();
        Due.read(x, "2abc+3ab+4b+5c+6ap+7p^3+8");
        x.set(0, 0, 4);
        Due.written(x, 0, "2abc+3ab+4b+5c+8");
        x.product(1, 1, 0);
        x.blow();
        Due.read(x, "2b+3p+4bp");
        x.set(0, 0, 4);
        Due.written(x, 0, "2b");
        x.product(2, 0, 0);
        x.blow();
        Due.read(x, "2a+3p+4ap");
        x.set(0, 0, 4);
        Due.written(x, 0, "2a");
    }

    @Says(promise = 13, value = {"3 PART under CLASS: a CLASS's, if SIZE is FIGURE, else 0.",
        "5 DUAL under MINUS: a MINUS's, if SIZE is odd, else a CLASS's."})
    static void p13_partAndDualGoBySize() {
        BlownSpaces x = new BlownSpaces();
        x.product(3, 1, 1);
        Due.read(x, "2a^5+3a^2bc+4abc+5bc+6c+7");
        String[] parts = {"7", "6c", "5bc", "4abc", "3a^2bc", "2a^5", "0", "0", "0", "0"};
        x.set(0, 0, 3);
        for (int figure = 0; figure <= 9; figure++) {
            x.set(0, 1, figure);
            Due.written(x, 0, parts[figure]);
        }
        x.set(0, 0, 5);
        Due.written(x, 0, "-2a^5+3a^2bc-4abc+5bc-6c+7");
    }

    // ---- promise 14

    @Says(promise = 14, value = "The last CLASS goes: how many there are. STATE: there is none.")
    static void p14_goesFrom8ToNone() {
        BlownSpaces x = eight();
        for (int left = 7; left >= 0; left--) {
            Due.is("drop", x.drop(), left);
            Due.is("classes", x.count(0), left);
            Due.is("the last is gone", x.of(left, 0), BAD);
            Due.is("the one ahead stays", x.number(left - 1, 1), left == 0 ? VOID : left);
        }
        Due.is("none", x.drop(), STATE);
        Due.is("none", x.drop(), STATE);
        Due.is("comes as 0", Due.read(x, "a"), 0);
    }

    @Says(promise = 14, value = {"STATE: there is none.", "STATE (-5): as told."})
    static void p14_whereThereIsNoneNothingChanges() {
        Twins.keep("drop", x -> {
            Rooms.plane(x);
            x.drop();
            x.drop();
        }, BlownSpaces::drop, STATE);
        Due.is("a new object", new BlownSpaces().drop(), STATE);
    }

    @Says(promise = 14, value = {"What brings or takes CLASSES, LETTERS or THE SPACE, and back() leave none",
        "what leaves no CHANGES leaves none to be DONE AGAIN, too;"})
    static void p14_leavesNoChanges() {
        BlownSpaces x = new BlownSpaces();
        Rooms.plane(x);
        changesAre(x, 3, 1);
        Due.is("drop", x.drop(), 1);
        changesAre(x, 0, 0);
        Due.is("undo", x.undo(), STATE);
        Due.is("redo", x.redo(), STATE);
        Due.is("what was changed stays", x.of(0, 0), 2);
    }

    @Says(promise = 14, value = "CLASSES are numbered from 0 as they come, 8 at most, each of a KIND")
    static void p14_theNextToComeHasItsNumberAndNothingElseOfIt() {
        BlownSpaces x = plane("a", "5a^2+6a+7");
        x.set(1, 0, 2);
        x.set(1, 1, 9);
        x.drop();
        Due.is("canonical", x.canonical(), 1);
        Due.is("kind", x.of(1, 0), 0);
        Due.is("figure", x.of(1, 1), 0);
        Due.written(x, 1, "-3a");
        x.set(1, 0, 3);
        x.set(1, 1, 8);
        x.drop();
        Due.is("read", Due.read(x, "2"), 1);
        Due.is("kind", x.of(1, 0), 0);
        Due.is("figure", x.of(1, 1), 0);
        Due.written(x, 1, "2");
        x.set(1, 0, 3);
        x.set(1, 1, 8);
        x.drop();
        Due.is("acts", Due.acts(x, "sum 0 0"), 1);
        Due.is("kind", x.of(1, 0), 0);
        Due.is("figure", x.of(1, 1), 0);
        Due.written(x, 1, "2a");
    }

    // ---- promise 15

    @Says(promise = 15, value = {"CANONICAL comes as a CLASS more (of KIND 0, FIGURE 0): its number. FULL.",
        "CLASSES are numbered from 0 as they come, 8 at most"})
    static void p15_theEighthComesANinthDoesNot() {
        BlownSpaces x = new BlownSpaces();
        for (int k = 0; k < 8; k++) {
            Due.is("canonical", x.canonical(), k);
            Due.is("kind", x.of(k, 0), 0);
            Due.is("figure", x.of(k, 1), 0);
        }
        Due.is("a ninth", x.canonical(), FULL);
        Due.is("classes", x.count(0), 8);
        Twins.keep("a ninth", Rooms::full, BlownSpaces::canonical, FULL);
        x.drop();
        Due.is("the eighth again", x.canonical(), 7);
    }

    @Says(promise = 15, value = "What brings or takes CLASSES, LETTERS or THE SPACE, and back() leave none (where they are"
        + " not refused, by no FAULT).")
    static void p15_leavesNoChangesARefusedOneDoes() {
        BlownSpaces x = new BlownSpaces();
        Rooms.plane(x);
        Due.is("canonical", x.canonical(), 2);
        changesAre(x, 0, 0);
        x = new BlownSpaces();
        Rooms.full(x);
        changesAre(x, 3, 1);
        Due.is("full", x.canonical(), FULL);
        changesAre(x, 3, 1);
    }

    private static void canonicalIs(BlownSpaces x, String want) {
        int one = x.canonical();
        Due.is("kind", x.of(one, 0), 0);
        Due.is("figure", x.of(one, 1), 0);
        Due.written(x, one, want);
    }

    @Says(promise = 15, value = "CANONICAL: at LETTERS of FACTORS 0 less (DIMENSION plus 1), at those of POINTS n less 1;"
        + " CURVED: -4 at a, 1 at LETTERS of CURVES; CONICS: -6 at a, 2 at v.")
    static void p15_canonicalOfEachSpace() {
        BlownSpaces x = new BlownSpaces();
        for (int n = 1; n <= 5; n++) {
            x.product(n, 0, 0);
            canonicalIs(x, "-" + (n + 1) + "a");
        }
        x.product(3, 1, 1);
        x.blow();
        x.blow();
        x.blow();
        canonicalIs(x, "-4a-2b-2c+4p+4q+4r");
        x.product(1, 1, 0);
        x.blow();
        canonicalIs(x, "-2a-2b+p");
        x.product(1, 0, 0);
        x.blow();
        canonicalIs(x, "-2a");
        Due.is("n less 1 is 0 on a line", x.number(0, 10), 0);
        x.curved();
        canonicalIs(x, "-4a");
        x.curve(9, 9);
        x.curve(1, 0);
        x.curve(1, 0);
        canonicalIs(x, "-4a+u+v+w");
        x.conics();
        canonicalIs(x, "-6a+2v");
    }
}
