/** Promises 37 to 45: each sentence that names a boundary case. */
public final class ActEdgesTest {
    private static final int BAD = BlownSpaces.BAD, NOT = BlownSpaces.NOT;
    private static final int FULL = BlownSpaces.FULL, STATE = BlownSpaces.STATE;
    private static final int LEAST = Integer.MIN_VALUE, MOST = Integer.MAX_VALUE;
    private static final int[] NO_CLASSES = {2, -1, 8, LEAST, MOST};

    public static void main(String[] args) throws ReflectiveOperationException {
        Edges.run(ActEdgesTest.class);
    }

    private static BlownSpaces plane(String... classes) {
        BlownSpaces x = new BlownSpaces();
        for (int k = 0; k < classes.length; k++) {
            Due.is("read", Due.read(x, classes[k]), k);
        }
        return x;
    }

    private static void changesAre(BlownSpaces x, int done, int undone) {
        Due.is("to be undone", x.count(1), done);
        Due.is("to be done again", x.count(2), undone);
    }

    // ---- promises 37 and 38

    private static final String BODIES = "ACTS of a CLASS with x (an int that wraps): 0 meets, 1 turns, 2 tells; i its number, f"
        + " its FIGURE. BODIES: CLASS: 10 meets: x + i. 11 turns: meets(x) * 2. 12 tells: turns(x) - f. MINUS: 20 turns:"
        + " super.turns(x) ^ 3. TIMES: 30 meets: -super.meets(x). PULLED: 40 tells: super.tells(x + 1). 41 meets:"
        + " super.meets(x) * 3. PART: 50 turns: super.turns(x) + meets(2). DUAL: 60 tells: super.tells(x) ^ f.";
    private static final String OWN = "meets(..) and so on: the body of its own KIND, or of the next KIND above that has one; super:"
        + " from the KIND above the body's on; what stands in a body is done from the left on.";
    private static final String TRACE = "THE TRACE: numbers of the bodies that ran in the latest act() that was not BAD, as they"
        + " began; the first 24 are kept.";

    @Says(promise = 37, value = {"An ACT (0 .. 2) of a CLASS with x. 0, and nothing else, if BAD.", TRACE})
    static void p37_onlyAClassThatIsThereAndAct0To2() {
        for (int one : NO_CLASSES) {
            Twins.keepEverywhere("class " + one, x -> x.act(one, 0, 5), 0);
        }
        for (int act : new int[] {-1, 3, LEAST, MOST}) {
            Twins.keepEverywhere("act " + act, x -> x.act(0, act, 5), 0);
        }
        BlownSpaces x = new BlownSpaces();
        Due.is("no classes", x.act(0, 0, 5), 0);
        Due.is("no trace", x.trace(0), NOT);
        for (int k = 0; k < 8; k++) {
            Due.read(x, "a");
        }
        Due.is("class 7", x.act(7, 0, 5), 12);
        Due.is("trace", x.trace(0), 10);
        Due.is("class 8", x.act(8, 2, 5), 0);
        Due.is("the trace stays", x.trace(0), 10);
        Due.is("the trace stays", x.trace(1), NOT);
    }

    private static int meets(int kind, int i, int x) {
        int own = x + i;
        return kind == 2 ? -own : kind == 4 ? -own * 3 : own;
    }

    private static int turns(int kind, int i, int x) {
        int own = meets(kind, i, x) * 2;
        return kind == 1 || kind == 5 ? own ^ 3 : kind == 3 ? own + meets(kind, i, 2) : own;
    }

    private static int tells(int kind, int i, int f, int x) {
        int at = kind == 4 ? x + 1 : x;
        int own = turns(kind, i, at) - f;
        return kind == 5 ? own ^ f : own;
    }

    @Says(promise = 37, value = {BODIES, OWN, "x (an int that wraps)"})
    static void p37_eachKindWithAnyX() {
        for (int kind = 0; kind <= 5; kind++) {
            for (int f = 0; f <= 9; f++) {
                BlownSpaces y = plane("a", "a", "a", "a", "a", "a", "a", "a");
                for (int i = 0; i <= 7; i += 7) {
                    y.set(i, 0, kind);
                    y.set(i, 1, f);
                    for (int x : new int[] {0, 5, -1, MOST, MOST - 7, LEAST, 1 << 30, 715827883}) {
                        String what = "kind " + kind + ", figure " + f + ", class " + i + ", x " + x;
                        Due.is("meets, " + what, y.act(i, 0, x), meets(kind, i, x));
                        Due.is("turns, " + what, y.act(i, 1, x), turns(kind, i, x));
                        Due.is("tells, " + what, y.act(i, 2, x), tells(kind, i, f, x));
                    }
                }
            }
        }
    }

    @Says(promise = 37, value = "x (an int that wraps)")
    static void p37_xWrapsByHand() {
        BlownSpaces x = plane("a", "a");
        Due.is("the greatest and 1", x.act(1, 0, MOST), LEAST);
        Due.is("twice", x.act(0, 1, 1 << 30), LEAST);
        x.set(1, 0, 2);
        Due.is("0 less the least", x.act(1, 0, MOST), LEAST);
        x.set(0, 0, 4);
        Due.is("one more than the greatest: 0 less the least, three times", x.act(0, 0, LEAST), LEAST);
        Due.is("tells of x + 1", x.act(0, 2, MOST), 0);
        x.set(0, 1, 9);
        Due.is("less 9", x.act(0, 2, MOST), -9);
    }

    @Says(promise = 38, value = {TRACE, "THE TRACE's i-th body. NOT: none such."})
    static void p38_bodiesAsTheyBegan() {
        int[][] want = {
            {10}, {11, 10}, {12, 11, 10},
            {10}, {20, 11, 10}, {12, 20, 11, 10},
            {30, 10}, {11, 30, 10}, {12, 11, 30, 10},
            {10}, {50, 11, 10, 10}, {12, 50, 11, 10, 10},
            {41, 30, 10}, {11, 41, 30, 10}, {40, 12, 11, 41, 30, 10},
            {10}, {20, 11, 10}, {60, 12, 20, 11, 10}
        };
        BlownSpaces x = plane("a");
        for (int kind = 0; kind <= 5; kind++) {
            x.set(0, 0, kind);
            for (int act = 0; act <= 2; act++) {
                int[] bodies = want[3 * kind + act];
                x.act(0, act, 1);
                for (int i = 0; i < bodies.length; i++) {
                    Due.is("kind " + kind + ", act " + act + ", body " + i, x.trace(i), bodies[i]);
                }
                Due.is("kind " + kind + ", act " + act + ", behind", x.trace(bodies.length), NOT);
            }
        }
    }

    @Says(promise = 38, value = {"THE TRACE's i-th body. NOT: none such.", "the first 24 are kept"})
    static void p38_iIsFrom0ToTheLastBody() {
        Due.is("none at first", new BlownSpaces().trace(0), NOT);
        for (int i : new int[] {-1, 23, 24, LEAST, MOST}) {
            Twins.keepEverywhere("i " + i, x -> x.trace(i), NOT);
        }
        BlownSpaces x = plane("a");
        x.set(0, 0, 4);
        x.act(0, 2, 0);
        Due.is("the longest there is", x.trace(5), 10);
        Due.is("behind it", x.trace(6), NOT);
        x.act(0, 0, 0);
        Due.is("of the latest alone", x.trace(2), 10);
        Due.is("of the latest alone", x.trace(3), NOT);
    }

    @Says(promise = 38, value = "the latest act() that was not BAD")
    static void p38_staysByABadActAndByAllElse() {
        BlownSpaces x = plane("a");
        x.act(0, 1, 1);
        x.act(1, 0, 1);
        x.act(0, 3, 1);
        x.act(0, -1, 1);
        x.drop();
        x.act(0, 0, 1);
        x.image();
        x.conics();
        x.back();
        Due.is("first", x.trace(0), 11);
        Due.is("second", x.trace(1), 10);
        Due.is("behind", x.trace(2), NOT);
    }

    // ---- promise 39

    @Says(promise = 39, value = "A CLASS taken for one of KIND k (0 .. 5), or one under that: its FIGURE by k 2 .. 4, else its"
        + " number. BAD; STATE: it is none.")
    static void p39_onlyAClassThatIsThereAndKind0To5() {
        for (int one : NO_CLASSES) {
            Twins.keepEverywhere("class " + one, x -> x.taken(one, 0), BAD);
        }
        for (int k : new int[] {-1, 6, LEAST, MOST}) {
            Twins.keepEverywhere("kind " + k, x -> x.taken(0, k), BAD);
        }
        Twins.keepEverywhere("it is none", x -> x.taken(0, 5), STATE);
        Due.is("no classes", new BlownSpaces().taken(0, 0), BAD);
    }

    @Says(promise = 39, value = {"taken() goes by the KIND asked.", "A CLASS taken for one of KIND k (0 .. 5), or one under that:"
        + " its FIGURE by k 2 .. 4, else its number."})
    static void p39_eachKindTakenForEach() {
        String[] under = {"0", "01", "02", "03", "024", "015"};
        for (int one = 0; one <= 7; one += 7) {
            for (int kind = 0; kind <= 5; kind++) {
                for (int figure : new int[] {0, 9}) {
                    BlownSpaces x = plane("a", "a", "a", "a", "a", "a", "a", "a");
                    x.set(one, 0, kind);
                    x.set(one, 1, figure);
                    for (int k = 0; k <= 5; k++) {
                        int want = under[kind].indexOf('0' + k) < 0 ? STATE : k >= 2 && k <= 4 ? figure : one;
                        Due.is("kind " + kind + " taken for " + k, x.taken(one, k), want);
                    }
                }
            }
        }
    }

    // ---- promises 40 and 41

    @Says(promise = 40, value = {"The latest CHANGE is UNDONE: how many can still be. STATE: there is none.",
        "what set() made otherwise can be UNDONE, the latest first, 12 at most (then the eldest is none any more)"})
    static void p40_twelveAtMostAndTheEldestGoes() {
        for (int many = 0; many <= 16; many++) {
            BlownSpaces x = plane("a");
            for (int k = 1; k <= many; k++) {
                Due.is("set", x.set(0, 1, k % 10), (k - 1) % 10);
                changesAre(x, Math.min(k, 12), 0);
            }
            int left = Math.min(many, 12);
            for (int k = many; left > 0; k--) {
                left--;
                Due.is("undo", x.undo(), left);
                Due.is("as it was ahead", x.of(0, 1), (k - 1) % 10);
            }
            Due.is("none", x.undo(), STATE);
            Due.is("the eldest stay", x.of(0, 1), Math.max(0, many - 12));
            changesAre(x, 0, Math.min(many, 12));
        }
    }

    @Says(promise = 40, value = "STATE: there is none.")
    static void p40_whereThereIsNoneNothingChanges() {
        Due.is("a new object", new BlownSpaces().undo(), STATE);
        Twins.keep("none to be undone, some to be done again", x -> {
            Rooms.plane(x);
            x.undo();
            x.undo();
            x.undo();
        }, BlownSpaces::undo, STATE);
    }

    @Says(promise = 40, value = "the latest first")
    static void p40_ofEachClassItsOwnAndTheLatestFirst() {
        BlownSpaces x = plane("a", "a");
        x.set(0, 0, 4);
        x.set(1, 0, 4);
        x.set(1, 1, 7);
        x.set(0, 1, 7);
        Due.is("undo", x.undo(), 3);
        Due.is("figure of 0", x.of(0, 1), 0);
        Due.is("figure of 1", x.of(1, 1), 7);
        Due.is("undo", x.undo(), 2);
        Due.is("figure of 1", x.of(1, 1), 0);
        Due.is("kind of 1", x.of(1, 0), 4);
        Due.is("undo", x.undo(), 1);
        Due.is("kind of 1", x.of(1, 0), 0);
        Due.is("kind of 0", x.of(0, 0), 4);
        Due.is("undo", x.undo(), 0);
        Due.is("kind of 0", x.of(0, 0), 0);
    }

    @Says(promise = 40, value = "12 at most (then the eldest is none any more)")
    static void p40_whereTheEldestGoTheOthersStayWhatTheyWere() {
        BlownSpaces x = plane("a", "a", "a", "a", "a", "a", "a", "a");
        int[] ones = {0, 1, 2, 3, 4, 5, 6, 7, 7, 6, 5, 4, 3, 2, 1, 0};
        int[] whats = {0, 0, 1, 1, 0, 1, 0, 0, 1, 1, 0, 1, 0, 0, 1, 1};
        for (int k = 0; k < 16; k++) {
            Due.is("set", x.set(ones[k], whats[k], 1 + k % 5), 0);
        }
        changesAre(x, 12, 0);
        for (int k = 15; k >= 4; k--) {
            Due.is("as it was set", x.of(ones[k], whats[k]), 1 + k % 5);
            Due.is("undo", x.undo(), k - 4);
            Due.is("as it was ahead", x.of(ones[k], whats[k]), 0);
        }
        Due.is("none", x.undo(), STATE);
        for (int k = 0; k < 16; k++) {
            Due.is("what remains", x.of(ones[k], whats[k]), k < 4 ? 1 + k % 5 : 0);
        }
        for (int k = 4; k < 16; k++) {
            Due.is("redo", x.redo(), 15 - k);
            Due.is("as it was set", x.of(ones[k], whats[k]), 1 + k % 5);
        }
    }

    @Says(promise = 41, value = {"The CHANGE UNDONE last is DONE AGAIN: how many can still be. STATE: there is none.",
        "and DONE AGAIN, as long as no other one came behind;"})
    static void p41_upToTwelveAreDoneAgain() {
        for (int many = 0; many <= 14; many++) {
            BlownSpaces x = plane("a");
            for (int k = 1; k <= many; k++) {
                x.set(0, 1, k % 10);
            }
            int kept = Math.min(many, 12);
            for (int k = 0; k < kept; k++) {
                x.undo();
            }
            changesAre(x, 0, kept);
            for (int k = 1; k <= kept; k++) {
                Due.is("redo", x.redo(), kept - k);
                Due.is("as it was", x.of(0, 1), (many - kept + k) % 10);
                changesAre(x, k, kept - k);
            }
            Due.is("none", x.redo(), STATE);
        }
    }

    @Says(promise = 41, value = "STATE: there is none.")
    static void p41_whereThereIsNoneNothingChanges() {
        Due.is("a new object", new BlownSpaces().redo(), STATE);
        Twins.keep("none to be done again, some to be undone", x -> {
            Rooms.plane(x);
            x.redo();
        }, BlownSpaces::redo, STATE);
    }

    @Says(promise = 41, value = {"as long as no other one came behind; telling what is so already is none.",
        "telling what is so already end nothing"})
    static void p41_anotherOneBehindEndsThem() {
        BlownSpaces x = plane("a");
        x.set(0, 1, 1);
        x.set(0, 1, 2);
        x.set(0, 1, 3);
        x.undo();
        x.undo();
        changesAre(x, 1, 2);
        Due.is("so already", x.set(0, 1, 1), 1);
        changesAre(x, 1, 2);
        Due.is("another", x.set(0, 0, 1), 0);
        changesAre(x, 2, 0);
        Due.is("none", x.redo(), STATE);
        Due.is("undo", x.undo(), 1);
        Due.is("redo", x.redo(), 0);
        Due.is("the other one", x.of(0, 0), 1);
        Due.is("not those of before", x.of(0, 1), 1);
        x = plane("a");
        for (int k = 1; k <= 12; k++) {
            x.set(0, 1, k % 10);
        }
        for (int k = 0; k < 12; k++) {
            x.undo();
        }
        changesAre(x, 0, 12);
        x.set(0, 1, 5);
        changesAre(x, 1, 0);
        Due.is("undo", x.undo(), 0);
        Due.is("as it was ahead", x.of(0, 1), 0);
    }

    @Says(promise = 41, value = "as long as no other one came behind")
    static void p41_oneThatIsTheSameAsTheUndoneOneIsAnotherToo() {
        BlownSpaces x = plane("a");
        x.set(0, 1, 1);
        x.set(0, 1, 2);
        x.undo();
        x.undo();
        Due.is("the same again", x.set(0, 1, 1), 0);
        changesAre(x, 1, 0);
        Due.is("none", x.redo(), STATE);
    }

    @Says(promise = 41, value = {"What brings or takes CLASSES, LETTERS or THE SPACE, and back() leave none (where they are not"
        + " refused, by no FAULT).", "what leaves no CHANGES leaves none to be DONE AGAIN, too;"})
    static void p41_whatLeavesNoChanges() {
        leavesNone("product", x -> x.product(1, 0, 0));
        leavesNone("product, so already", x -> x.product(2, 0, 0));
        leavesNone("blow", BlownSpaces::blow);
        leavesNone("curved", BlownSpaces::curved);
        leavesNone("conics", BlownSpaces::conics);
        leavesNone("canonical", BlownSpaces::canonical);
        leavesNone("drop", BlownSpaces::drop);
        leavesNone("back", BlownSpaces::back);
        leavesNone("read", BlownSpaces::read);
        leavesNone("acts", x -> {
            x.wipe();
            return Due.acts(x, "sum 0 0");
        });
        BlownSpaces x = new BlownSpaces();
        Rooms.curved(x);
        x.curve(1, 0);
        changesAre(x, 0, 0);
    }

    private static void leavesNone(String what, Twins.Call call) {
        BlownSpaces x = new BlownSpaces();
        Rooms.plane(x);
        changesAre(x, 3, 1);
        Due.is(what + " is not refused", call.to(x) < 0 ? 1 : 0, 0);
        changesAre(x, 0, 0);
        Due.is("undo", x.undo(), STATE);
        Due.is("redo", x.redo(), STATE);
    }

    @Says(promise = 41, value = {"(where they are not refused, by no FAULT)", "back() leave none",
        "a FAULT, ACTS that can't be done, and telling what is so already end nothing."})
    static void p41_whatLeavesThemAsTheyAre() {
        BlownSpaces x = new BlownSpaces();
        Rooms.plane(x);
        x.wipe();
        x.product(0, 0, 0);
        x.curve(1, 0);
        x.tell(0, 0, 9);
        x.set(9, 0, 0);
        x.set(0, 0, 6);
        Due.is("a fault", x.read(), -100);
        Due.is("a fault", x.acts(), -100);
        Due.is("can't be", Due.acts(x, "sum 9 9"), -200);
        x.write(0);
        x.act(0, 0, 0);
        x.list(0, 0, 3);
        x.image();
        changesAre(x, 3, 1);
        x = plane("a");
        x.set(0, 0, 3);
        x.set(0, 0, 4);
        x.undo();
        Due.is("back, without an image", x.back(), STATE);
        changesAre(x, 1, 1);
        Due.is("redo", x.redo(), 0);
        Due.is("kind", x.of(0, 0), 4);
        x.image();
        x.undo();
        Due.is("back", x.back(), 1);
        changesAre(x, 0, 0);
        Due.is("kind", x.of(0, 0), 4);
    }

    // ---- promises 42 to 44

    @Says(promise = 42, value = {"THE IMAGE is taken: how many CLASSES.", "THE IMAGE: THE SPACE, CLASSES with all that is theirs;"})
    static void p42_from0To8Classes() {
        BlownSpaces x = new BlownSpaces();
        for (int many = 0; many <= 8; many++) {
            Due.is("image", x.image(), many);
            Due.is("alike", x.alike(), 1);
            if (many < 8) {
                Due.read(x, (many + 1) + "a");
                Due.is("one more", x.alike(), 0);
            }
        }
        x.drop();
        Due.is("one less", x.alike(), 0);
        x.product(1, 0, 0);
        Due.is("back", x.back(), 8);
        for (int k = 0; k < 8; k++) {
            Due.is("number", x.number(k, 1), k + 1);
        }
        Due.is("alike", x.alike(), 1);
    }

    @Says(promise = 42, value = "THE IMAGE is taken: how many CLASSES.")
    static void p42_takingItChangesNothingElse() {
        BlownSpaces x = new BlownSpaces();
        Rooms.plane(x);
        Due.is("image", x.image(), 2);
        changesAre(x, 3, 1);
        Due.is("tape", x.count(3), 4);
        Due.is("alike", x.alike(), 1);
        Due.is("undo", x.undo(), 2);
        Due.is("no more alike", x.alike(), 0);
        Due.is("redo", x.redo(), 1);
        Due.is("alike again", x.alike(), 1);
    }

    @Says(promise = 42, value = "THE IMAGE is taken: how many CLASSES.")
    static void p42_anotherOneTakesThePlaceOfTheFirst() {
        BlownSpaces x = plane("a", "2a");
        x.image();
        x.curved();
        x.curve(1, 1);
        Due.read(x, "u");
        Due.is("image", x.image(), 1);
        x.product(2, 0, 0);
        Due.is("back", x.back(), 1);
        Due.is("curved", x.space(0), 1);
        Due.written(x, 0, "u");
    }

    @Says(promise = 43, value = {"ALIKE (1, 0). STATE: there is no IMAGE.", "ALIKE: all of these are now as it has them."})
    static void p43_withoutAnImage() {
        Due.is("a new object", new BlownSpaces().alike(), STATE);
        Due.is("with classes", plane("a").alike(), STATE);
    }

    private static void alikeBy(String what, Twins.Way way, int want) {
        BlownSpaces x = new BlownSpaces();
        Rooms.curved(x);
        x.image();
        way.go(x);
        Due.is("alike by " + what, x.alike(), want);
    }

    @Says(promise = 43, value = "ALIKE: all of these are now as it has them.")
    static void p43_unlikeByOneThingAlone() {
        alikeBy("nothing", x -> { }, 1);
        alikeBy("kind", x -> x.set(0, 0, 1), 0);
        alikeBy("kind of the last", x -> x.set(1, 0, 0), 0);
        alikeBy("figure", x -> x.set(0, 1, 5), 0);
        alikeBy("figure of the last", x -> x.set(1, 1, 9), 0);
        alikeBy("the first term", x -> x.tell(0, 3, 9), 0);
        alikeBy("the last term", x -> x.tell(0, 0, 9), 0);
        alikeBy("the last term of the last", x -> x.tell(1, 0, 9), 0);
        alikeBy("a class less", BlownSpaces::drop, 0);
        alikeBy("a class more", BlownSpaces::canonical, 0);
        alikeBy("a curve more", x -> x.curve(1, 0), 0);
        alikeBy("another space", BlownSpaces::conics, 0);
        alikeBy("what is told again", x -> {
            x.tell(0, 3, 9);
            x.tell(0, 3, 2);
        }, 1);
        alikeBy("undone", BlownSpaces::undo, 0);
        alikeBy("undone and done again", x -> {
            x.undo();
            x.redo();
        }, 1);
        alikeBy("tape, paper, lists, trace", x -> {
            x.wipe();
            x.write(1);
            x.list(0, -1, 0);
            x.act(0, 0, 0);
        }, 1);
    }

    @Says(promise = 43, value = {"ALIKE: all of these are now as it has them.", "THE IMAGE: THE SPACE, CLASSES with all that is"
        + " theirs;"})
    static void p43_numbersAlikeAreNotEnough() {
        BlownSpaces x = plane("3a");
        x.image();
        x.set(0, 0, 2);
        Due.is("times 1 has the same numbers", x.alike(), 0);
        x.set(0, 0, 3);
        x.set(0, 1, 1);
        Due.is("part 1 has the same numbers", x.alike(), 0);
        x = plane("3a+4");
        x.set(0, 0, 3);
        x.set(0, 1, 1);
        x.image();
        x.tell(0, 0, 5);
        Due.is("told otherwise, the same numbers", x.alike(), 0);
        x.tell(0, 0, 4);
        Due.is("as it was", x.alike(), 1);
    }

    @Says(promise = 43, value = {"ALIKE: all of these are now as it has them.", "THE IMAGE: THE SPACE,"})
    static void p43_spacesThatAreUnlikeByOneThing() {
        unlikeSpaces(x -> x.product(1, 2, 0), x -> x.product(2, 1, 0));
        unlikeSpaces(x -> x.product(3, 0, 0), x -> x.product(1, 1, 1));
        unlikeSpaces(x -> x.product(3, 0, 0), BlownSpaces::curved);
        unlikeSpaces(x -> x.product(5, 0, 0), BlownSpaces::conics);
        unlikeSpaces(x -> x.product(4, 1, 0), BlownSpaces::conics);
        unlikeSpaces(x -> x.product(2, 1, 0), x -> {
            x.product(3, 0, 0);
            x.blow();
        });
        unlikeSpaces(x -> x.curve(1, 0), x -> x.curve(2, 0));
        unlikeSpaces(x -> x.curve(1, 0), x -> x.curve(1, 1));
        unlikeSpaces(x -> {
            x.curve(1, 0);
            x.curve(2, 0);
        }, x -> {
            x.curve(2, 0);
            x.curve(1, 0);
        });
        unlikeSpaces(x -> {
            x.curve(1, 0);
            x.curve(1, 0);
            x.curve(1, 9);
        }, x -> {
            x.curve(1, 0);
            x.curve(1, 0);
            x.curve(9, 9);
        });
    }

    @Says(promise = 43, value = "ALIKE: all of these are now as it has them.")
    static void p43_whatWasThereInBetweenDoesNotMatter() {
        BlownSpaces x = new BlownSpaces();
        x.curved();
        x.image();
        x.curve(9, 9);
        x.curve(8, 8);
        Due.is("curves more", x.alike(), 0);
        x.curved();
        Due.is("without curves again", x.alike(), 1);
        x.curve(7, 7);
        x.product(1, 1, 1);
        x.image();
        x.curved();
        x.curve(1, 1);
        x.conics();
        x.product(1, 1, 1);
        Due.is("a product again", x.alike(), 1);
        x.blow();
        Due.read(x, "abc+p^3");
        x.product(1, 1, 1);
        Due.is("without the point again", x.alike(), 1);
        Due.read(x, "abc");
        x.image();
        x.drop();
        Due.read(x, "5abc+4a+3b+2c+1");
        x.drop();
        Due.read(x, "abc");
        Due.is("the class again", x.alike(), 1);
    }

    private static void unlikeSpaces(Twins.Way way, Twins.Way other) {
        Twins.Way[] ways = {way, other};
        for (int k = 0; k < 2; k++) {
            BlownSpaces x = new BlownSpaces();
            x.curved();
            ways[k].go(x);
            x.image();
            x.curved();
            ways[1 - k].go(x);
            Due.is("unlike spaces", x.alike(), 0);
            x.curved();
            ways[k].go(x);
            Due.is("like spaces", x.alike(), 1);
        }
    }

    @Says(promise = 44, value = {"All is as THE IMAGE (THE TAPE, THE PAPER and LISTS stay): how many CLASSES. STATE: there is"
        + " none."})
    static void p44_withoutAnImageNothingChanges() {
        Due.is("a new object", new BlownSpaces().back(), STATE);
        BlownSpaces x = plane("a");
        x.set(0, 0, 1);
        x.set(0, 0, 2);
        x.undo();
        Due.is("none", x.back(), STATE);
        changesAre(x, 1, 1);
        Due.is("kind", x.of(0, 0), 1);
        Due.is("classes", x.count(0), 1);
    }

    @Says(promise = 44, value = {"All is as THE IMAGE (THE TAPE, THE PAPER and LISTS stay): how many CLASSES.",
        "and back() leave none"})
    static void p44_tapePaperAndListsStay() {
        for (Twins.Way way : new Twins.Way[] {Rooms::plane, Rooms::points, Rooms::curved, Rooms::conics, Rooms::full}) {
            BlownSpaces x = new BlownSpaces();
            way.go(x);
            int tape = x.count(3);
            int classes = x.count(0);
            String paper = Due.paper(x);
            int sort = x.space(0);
            int terms = x.space(5);
            x.product(5, 0, 0);
            Due.is("back", x.back(), classes);
            Due.is("classes", x.count(0), classes);
            Due.is("alike", x.alike(), 1);
            Due.is("sort", x.space(0), sort);
            Due.is("terms", x.space(5), terms);
            Due.is("the last term", x.term(terms - 1), 0);
            Due.is("behind the last term", x.term(terms), NOT);
            Due.is("kind", x.of(0, 0), 0);
            Due.is("figure", x.of(0, 1), 0);
            changesAre(x, 0, 0);
            Due.is("tape", x.count(3), tape);
            Due.same("paper", Due.paper(x), paper);
            Due.is("lists", x.count(5), 2);
            Due.is("list 1", x.get(1, 1), Long.MAX_VALUE);
            Due.is("back again", x.back(), classes);
        }
    }

    @Says(promise = 44, value = "All is as THE IMAGE")
    static void p44_theImageStaysWhatItWas() {
        BlownSpaces x = plane("3a+4", "5a");
        x.set(1, 0, 2);
        x.set(1, 1, 6);
        x.image();
        for (int k = 0; k < 3; k++) {
            x.tell(0, 1, 100 + k);
            x.set(1, 0, 5);
            x.set(1, 1, 1);
            x.drop();
            x.drop();
            Due.read(x, "8");
            Due.is("unlike", x.alike(), 0);
            Due.is("back", x.back(), 2);
            Due.is("alike", x.alike(), 1);
            Due.written(x, 0, "3a+4");
            Due.written(x, 1, "35a");
            Due.is("kind", x.of(1, 0), 2);
            Due.is("figure", x.of(1, 1), 6);
        }
    }

    @Says(promise = 44, value = "All is as THE IMAGE")
    static void p44_degreesAndGeneraComeBack() {
        BlownSpaces x = new BlownSpaces();
        x.curved();
        x.curve(9, 9);
        x.curve(2, 3);
        x.image();
        x.curved();
        x.curve(1, 0);
        x.curve(1, 0);
        x.curve(1, 0);
        Due.is("back, without classes", x.back(), 0);
        Due.is("curves", x.space(4), 2);
        Due.is("au^2", x.worth(21), -9);
        Due.is("v^3", x.worth(300), 2 - 6 - 8);
        Due.is("no w", x.worth(3000), BlownSpaces.VOID);
        Due.is("euler", x.space(3), 4 - 16 - 4);
    }

    @Says(promise = 44, value = {"All is as THE IMAGE", "together n (5 at most), and 0 to 3 POINTS"})
    static void p44_theSpaceWithTheMostTerms() {
        BlownSpaces x = new BlownSpaces();
        x.product(3, 1, 1);
        x.blow();
        x.blow();
        x.blow();
        for (int k = 0; k < 8; k++) {
            Due.read(x, "a^5+r^5+" + (k + 1));
        }
        Due.is("image", x.image(), 8);
        Due.is("alike", x.alike(), 1);
        x.tell(7, 0, 9);
        Due.is("the last term of the last class", x.alike(), 0);
        Due.is("back", x.back(), 8);
        Due.is("alike", x.alike(), 1);
        x.tell(7, 5, 9);
        Due.is("the first term of the last class", x.alike(), 0);
        x.conics();
        Due.is("back", x.back(), 8);
        Due.is("terms", x.space(5), 462);
        Due.written(x, 7, "a^5+r^5+8");
        Due.is("met", x.met(7), 1);
    }

    // ---- promise 45

    @Says(promise = 45, value = "0 CLASSES, 1 CHANGES that can be UNDONE, 2 that can be DONE AGAIN, 3 bytes of THE TAPE, 4 of THE"
        + " PAPER, 5 LISTS that are there. BAD.")
    static void p45_whatIs0To5() {
        for (int what : new int[] {-1, 6, LEAST, MOST}) {
            Twins.keepEverywhere("what " + what, x -> x.count(what), BAD);
        }
        BlownSpaces x = new BlownSpaces();
        Rooms.plane(x);
        int[] want = {2, 3, 1, 4, Due.paper(x).length(), 2};
        for (int what = 0; what <= 5; what++) {
            Due.is("count " + what, x.count(what), want[what]);
        }
    }

    @Says(promise = 45, value = "0 CLASSES, 1 CHANGES that can be UNDONE, 2 that can be DONE AGAIN, 3 bytes of THE TAPE, 4 of THE"
        + " PAPER, 5 LISTS that are there.")
    static void p45_fromNoneToTheMost() {
        BlownSpaces x = new BlownSpaces();
        for (int what = 0; what <= 5; what++) {
            Due.is("count " + what, x.count(what), 0);
        }
        for (int k = 0; k < 8; k++) {
            x.canonical();
        }
        for (int k = 1; k <= 13; k++) {
            x.set(0, 1, k % 10);
        }
        for (int k = 0; k <= 80; k++) {
            x.feed('a');
        }
        for (int list = 0; list <= 2; list++) {
            x.list(list, 0, 0);
        }
        x.write(0);
        int[] most = {8, 12, 0, 80, 3, 3};
        for (int what = 0; what <= 5; what++) {
            Due.is("count " + what, x.count(what), most[what]);
        }
        for (int k = 1; k <= 12; k++) {
            x.undo();
            changesAre(x, 12 - k, k);
        }
        x.list(1, -1, 0);
        Due.is("lists", x.count(5), 2);
        Due.is("a ninth class", x.canonical(), FULL);
        Due.is("classes", x.count(0), 8);
    }
}
