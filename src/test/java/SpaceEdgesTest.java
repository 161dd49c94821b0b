import java.util.ArrayList;
import java.util.List;

/** Promises 1 to 9: each sentence that names a boundary case. */
public final class SpaceEdgesTest {
    private static final int BAD = BlownSpaces.BAD, NOT = BlownSpaces.NOT;
    private static final int FULL = BlownSpaces.FULL, STATE = BlownSpaces.STATE;
    private static final int LEAST = Integer.MIN_VALUE, MOST = Integer.MAX_VALUE;
    private static final long VOID = BlownSpaces.VOID;

    public static void main(String[] args) throws ReflectiveOperationException {
        Edges.run(SpaceEdgesTest.class);
    }

    private static void spaceIs(BlownSpaces x, int... want) {
        for (int k = 0; k < want.length; k++) {
            Due.is("space(" + k + ")", x.space(k), want[k]);
        }
    }

    private static BlownSpaces product(int a, int b, int c, int points) {
        BlownSpaces x = new BlownSpaces();
        Due.is("product", x.product(a, b, c), a + b + c);
        for (int k = 1; k <= points; k++) {
            Due.is("blow", x.blow(), k);
        }
        return x;
    }

    /** CURVES of these DEGREES and GENERA, one behind the other. */
    private static BlownSpaces curved(int... degreesAndGenera) {
        BlownSpaces x = new BlownSpaces();
        Due.is("curved", x.curved(), 3);
        for (int k = 0; k + 1 < degreesAndGenera.length; k += 2) {
            Due.is("curve", x.curve(degreesAndGenera[k], degreesAndGenera[k + 1]), k / 2);
        }
        return x;
    }

    private static BlownSpaces conics() {
        BlownSpaces x = new BlownSpaces();
        Due.is("conics", x.conics(), 5);
        return x;
    }

    // ---- promise 1

    @Says(promise = 1, value = {"As told at first; no CLASSES.",
        "At first: a PRODUCT of one FACTOR of DIMENSION 2, no POINTS."})
    static void p01_aNewObjectIsAPlaneWithoutClasses() {
        BlownSpaces x = new BlownSpaces();
        spaceIs(x, 0, 2, 1, 3, 0, 3);
        Due.is("first term", x.term(0), 2);
        Due.is("worth of a^2", x.worth(2), 1);
        Due.is("classes", x.count(0), 0);
        Due.is("no class 0", x.of(0, 0), BAD);
        Due.is("nothing to drop", x.drop(), STATE);
    }

    @Says(promise = 1, value = {"LISTS 0 .. 2 are missing (at first)", "(nothing at first)"})
    static void p01_aNewObjectHoldsNothingElse() {
        BlownSpaces x = new BlownSpaces();
        for (int what = 0; what <= 5; what++) {
            Due.is("count " + what, x.count(what), 0);
        }
        for (int list = 0; list <= 2; list++) {
            Due.is("list is missing", x.judge(list), -11);
            Due.is("list is missing", x.get(list, 0), VOID);
        }
        Due.is("paper", x.paper(0), NOT);
        Due.is("trace", x.trace(0), NOT);
        Due.is("undo", x.undo(), STATE);
        Due.is("redo", x.redo(), STATE);
        Due.is("alike", x.alike(), STATE);
        Due.is("back", x.back(), STATE);
        Due.is("tape", x.wipe(), 0);
    }

    @Says(promise = 1, value = "As told at first; no CLASSES.")
    static void p01_eachObjectIsByItself() {
        BlownSpaces first = new BlownSpaces();
        Rooms.conics(first);
        BlownSpaces second = new BlownSpaces();
        Rooms.plane(second);
        Due.same("a third is as told at first", Shown.by(new BlownSpaces()), Shown.by(new BlownSpaces()));
        spaceIs(new BlownSpaces(), 0, 2, 1, 3, 0, 3);
        BlownSpaces alone = new BlownSpaces();
        Rooms.conics(alone);
        Due.same("the first is as if it were alone", Shown.by(first), Shown.by(alone));
    }

    @Says(promise = 1, value = "An object is used for at most 512 calls after it has been made")
    static void p01_theCall512AnswersAsTheFirstOnes() {
        BlownSpaces x = new BlownSpaces();
        Due.read(x, "3a+1");
        for (int call = 6; call < 511; call++) {
            x.self(0, 2);
        }
        Due.is("call 511", x.set(0, 0, 1), 0);
        Due.is("call 512", x.self(0, 2), 9);
    }

    @Says(promise = 1, value = {"(nothing changes but where it is told), of several the first as the call's words name them:"
        + " BAD (-1): no such one, a number out of its range. NOT (-2): there is none. FULL (-3). STATE (-5): as told. VOID:"
        + " the least long. GONE: 1 more than that."})
    static void p01_refusalsAreTheseNumbersAndChangeNothing() {
        Due.is("bad", BAD, -1);
        Due.is("not", NOT, -2);
        Due.is("full", FULL, -3);
        Due.is("state", STATE, -5);
        Due.is("void", VOID, Long.MIN_VALUE);
        Due.is("gone", BlownSpaces.GONE, Long.MIN_VALUE + 1);
        Twins.keep("bad", Rooms::plane, x -> x.space(6), -1);
        Twins.keep("not", Rooms::plane, x -> x.term(3), -2);
        Twins.keep("full", Rooms::full, BlownSpaces::canonical, -3);
        Twins.keep("state", Rooms::plane, x -> x.curve(1, 0), -5);
        Twins.keep("void", Rooms::plane, x -> x.worth(3), Long.MIN_VALUE);
        Twins.keep("gone", Rooms::curved, x -> x.chern(0), Long.MIN_VALUE + 1);
    }

    // ---- promise 2

    @Says(promise = 2, value = "BAD: a 1 .. 5, b 0 .. 5, c 0 .. 5, together above 5.")
    static void p02_aIs1To5() {
        Twins.keepEverywhere("a 0", x -> x.product(0, 0, 0), BAD);
        Twins.keepEverywhere("a 0 with others", x -> x.product(0, 2, 2), BAD);
        Twins.keepEverywhere("a 6", x -> x.product(6, 0, 0), BAD);
        Twins.keepEverywhere("a -1", x -> x.product(-1, 0, 0), BAD);
        Twins.keepEverywhere("a -1, together 5", x -> x.product(-1, 3, 3), BAD);
        Twins.keepEverywhere("a least", x -> x.product(LEAST, 0, 0), BAD);
        Twins.keepEverywhere("a most", x -> x.product(MOST, 0, 0), BAD);
        for (int a = 1; a <= 5; a++) {
            spaceIs(product(a, 0, 0, 0), 0, a, 1, a + 1, 0, a + 1);
        }
    }

    @Says(promise = 2, value = "BAD: a 1 .. 5, b 0 .. 5, c 0 .. 5, together above 5.")
    static void p02_bIs0To5() {
        Twins.keepEverywhere("b -1", x -> x.product(2, -1, 0), BAD);
        Twins.keepEverywhere("b -1, together 5", x -> x.product(4, -1, 2), BAD);
        Twins.keepEverywhere("b 6", x -> x.product(1, 6, 0), BAD);
        Twins.keepEverywhere("b 6, together 5", x -> x.product(1, 6, -2), BAD);
        Twins.keepEverywhere("b least", x -> x.product(1, LEAST, 0), BAD);
        Twins.keepEverywhere("b most", x -> x.product(1, MOST, 0), BAD);
        spaceIs(product(1, 0, 0, 0), 0, 1, 1);
        spaceIs(product(1, 1, 0, 0), 0, 2, 2);
        spaceIs(product(1, 4, 0, 0), 0, 5, 2);
    }

    @Says(promise = 2, value = "BAD: a 1 .. 5, b 0 .. 5, c 0 .. 5, together above 5.")
    static void p02_cIs0To5() {
        Twins.keepEverywhere("c -1", x -> x.product(1, 1, -1), BAD);
        Twins.keepEverywhere("c -1, together 5", x -> x.product(3, 3, -1), BAD);
        Twins.keepEverywhere("c 6", x -> x.product(1, 1, 6), BAD);
        Twins.keepEverywhere("c least", x -> x.product(1, 1, LEAST), BAD);
        Twins.keepEverywhere("c most", x -> x.product(1, 1, MOST), BAD);
        spaceIs(product(1, 1, 0, 0), 0, 2, 2);
        spaceIs(product(1, 1, 1, 0), 0, 3, 3);
        spaceIs(product(1, 1, 3, 0), 0, 5, 3);
    }

    @Says(promise = 2, value = {"BAD: a 1 .. 5, b 0 .. 5, c 0 .. 5, together above 5.",
        "SORT 0 PRODUCT: 1 to 3 FACTORS with DIMENSIONS 1 .. 5, together n (5 at most), and 0 to 3 POINTS"})
    static void p02_togetherTheyAre5AtMost() {
        for (int a = 1; a <= 5; a++) {
            for (int b = 0; b <= 5; b++) {
                for (int c = 0; c <= 5; c++) {
                    BlownSpaces x = new BlownSpaces();
                    int n = a + b + (b == 0 ? 0 : c);
                    Due.is("product " + a + " " + b + " " + c, x.product(a, b, c), n <= 5 ? n : BAD);
                    Due.is("n of " + a + " " + b + " " + c, x.space(1), n <= 5 ? n : 2);
                }
            }
        }
        Twins.keepEverywhere("5 and 1", x -> x.product(5, 1, 0), BAD);
        Twins.keepEverywhere("1 and 5", x -> x.product(1, 5, 0), BAD);
        Twins.keepEverywhere("1, 1 and 4", x -> x.product(1, 1, 4), BAD);
        Twins.keepEverywhere("together they wrap", x -> x.product(2, MOST, MOST), BAD);
        for (int b = 0; b <= 5; b++) {
            for (int c = 0; c <= 5; c++) {
                BlownSpaces x = new BlownSpaces();
                Due.is("a most, " + b + ", " + c, x.product(MOST, b, c), BAD);
                Due.is("a most less 1, " + b + ", " + c, x.product(MOST - 1, b, c), BAD);
                Due.is("n stays", x.space(1), 2);
            }
        }
    }

    @Says(promise = 2, value = {"THE SPACE is a PRODUCT of FACTORS with these DIMENSIONS (b 0: of one, c does not matter"
        + " then; c 0: of two), without POINTS: n.", "product() with b 0 does not look at c;"})
    static void p02_bZeroDoesNotLookAtC() {
        for (int c : new int[] {0, 1, 5, 6, -1, LEAST, MOST}) {
            BlownSpaces x = new BlownSpaces();
            Due.is("5, 0 and " + c, x.product(5, 0, c), 5);
            spaceIs(x, 0, 5, 1, 6, 0, 6);
            Due.is("1, 0 and " + c, x.product(1, 0, c), 1);
            spaceIs(x, 0, 1, 1, 2, 0, 2);
            Due.is("a is looked at", x.product(6, 0, c), BAD);
            Due.is("a is looked at", x.product(0, 0, c), BAD);
        }
    }

    @Says(promise = 2, value = "c 0: of two")
    static void p02_cZeroIsOfTwoFactors() {
        BlownSpaces x = product(2, 1, 0, 0);
        Due.is("letters", x.space(2), 2);
        Due.is("letter b", Due.read(x, "b"), 0);
        Due.is("no letter c", Due.read(x, "c"), -100);
        x = product(2, 1, 1, 0);
        Due.is("letters", x.space(2), 3);
        Due.is("letter c", Due.read(x, "c"), 0);
    }

    @Says(promise = 2, value = {"it takes all CLASSES and POINTS, also if THE SPACE was so already.",
        "Whatever makes THE SPACE anew takes all CLASSES away;"})
    static void p02_takesClassesAndPointsAlsoIfItWasSoAlready() {
        BlownSpaces x = product(1, 1, 0, 3);
        Due.read(x, "a+p");
        Due.read(x, "b");
        Due.is("so already", x.product(1, 1, 0), 2);
        spaceIs(x, 0, 2, 2, 4, 0, 6);
        Due.is("classes", x.count(0), 0);
        Due.is("no class 0", x.met(0), VOID);
        Due.is("the first comes as 0", Due.read(x, "a"), 0);
        Due.is("p is a letter no more", Due.read(x, "p"), -100);
        Due.is("so already, without points", x.product(1, 1, 0), 2);
        Due.is("classes", x.count(0), 0);
        x = conics();
        Due.read(x, "v");
        Due.is("of another sort", x.product(2, 0, 0), 2);
        Due.is("classes", x.count(0), 0);
    }

    @Says(promise = 2, value = {"What brings or takes CLASSES, LETTERS or THE SPACE, and back() leave none",
        "what leaves no CHANGES leaves none to be DONE AGAIN, too;"})
    static void p02_leavesNoChanges() {
        BlownSpaces x = new BlownSpaces();
        Rooms.plane(x);
        x.product(2, 0, 0);
        Due.is("to be undone", x.count(1), 0);
        Due.is("to be done again", x.count(2), 0);
        Due.is("undo", x.undo(), STATE);
        Due.is("redo", x.redo(), STATE);
        Due.is("the tape stays", x.count(3), 4);
        Due.is("lists stay", x.get(1, 1), Long.MAX_VALUE);
        Due.is("the paper stays", x.paper(0), '1');
        Due.is("the image stays", x.alike(), 0);
        Due.is("the image stays", x.back(), 2);
    }

    // ---- promise 3

    @Says(promise = 3, value = {"A POINT more: how many.", "FULL: 3.", "and 0 to 3 POINTS"})
    static void p03_threePointsAndNoFourth() {
        BlownSpaces x = product(2, 0, 0, 0);
        for (int k = 1; k <= 3; k++) {
            Due.is("blow", x.blow(), k);
            Due.is("points", x.space(4), k);
            Due.is("letters", x.space(2), 1 + k);
        }
        Due.is("a fourth", x.blow(), FULL);
        Due.is("points", x.space(4), 3);
        Twins.Way three = y -> {
            Rooms.points(y);
            y.blow();
            y.blow();
            y.set(0, 1, 9);
            y.set(0, 1, 8);
            y.undo();
        };
        Twins.keep("a fourth", three, BlownSpaces::blow, FULL);
    }

    @Says(promise = 3, value = "STATE: THE SPACE is no PRODUCT;")
    static void p03_onlyAProductTakesPoints() {
        Twins.keep("curved", Rooms::curved, BlownSpaces::blow, STATE);
        Twins.keep("conics", Rooms::conics, BlownSpaces::blow, STATE);
        Due.is("curved, without curves", curved().blow(), STATE);
        Due.is("curved, with three", curved(1, 0, 1, 0, 1, 0).blow(), STATE);
        BlownSpaces x = curved();
        x.product(1, 0, 0);
        Due.is("a product again", x.blow(), 1);
    }

    @Says(promise = 3, value = {"a POINT, a CURVE more leaves them (their numbers at TERMS with the new LETTER are 0).",
        "LETTERS a, b, c, one for each FACTOR, then p, q, r, one for each POINT."})
    static void p03_classesStayWithZeroAtTheNewLetter() {
        BlownSpaces x = product(1, 1, 0, 0);
        Due.read(x, "2ab-3a+4b^2+5");
        x.set(0, 0, 1);
        String[] letters = {"p", "q", "r"};
        int unit = 100;
        for (int k = 0; k < 3; k++) {
            Due.is("blow", x.blow(), k + 1);
            Due.written(x, 0, "-2ab+3a-4b^2-5");
            Due.is("kind", x.of(0, 0), 1);
            for (int code : new int[] {unit, 2 * unit, unit + 1, unit + 10}) {
                Due.is("number at the new letter", x.number(0, code), 0);
            }
            Due.is("the letter", Due.read(x, "a" + letters[k]), 1);
            Due.is("its number", x.number(1, unit + 1), 1);
            x.drop();
            unit *= 10;
        }
    }

    @Says(promise = 3, value = "their numbers at TERMS with the new LETTER are 0")
    static void p03_aLetterThatWasThereBeforeLeavesNothingBehind() {
        BlownSpaces x = product(1, 0, 0, 1);
        Due.read(x, "7a+8p+9");
        x.product(1, 0, 0);
        Due.read(x, "2a+3");
        x.blow();
        Due.is("number at p", x.number(0, 10), 0);
        Due.written(x, 0, "2a+3");
    }

    @Says(promise = 3, value = "What brings or takes CLASSES, LETTERS or THE SPACE, and back() leave none (where they are"
        + " not refused, by no FAULT).")
    static void p03_aPointMoreLeavesNoChangesARefusedOneDoes() {
        BlownSpaces x = new BlownSpaces();
        Rooms.points(x);
        x.blow();
        Due.is("to be undone", x.count(1), 0);
        Due.is("to be done again", x.count(2), 0);
        x.blow();
        x.set(0, 1, 7);
        x.set(0, 1, 6);
        x.undo();
        Due.is("full", x.blow(), FULL);
        Due.is("to be undone", x.count(1), 1);
        Due.is("to be done again", x.count(2), 1);
    }

    @Says(promise = 3, value = "a POINT, a CURVE more leaves them (their numbers at TERMS with the new LETTER are 0).")
    static void p03_eightClassesStay() {
        BlownSpaces x = product(3, 1, 1, 0);
        for (int k = 0; k < 8; k++) {
            Due.read(x, "2a^3bc-c+" + (k + 1));
        }
        for (int points = 1; points <= 3; points++) {
            Due.is("blow", x.blow(), points);
            for (int k = 0; k < 8; k++) {
                Due.written(x, k, "2a^3bc-c+" + (k + 1));
                Due.is("terms", x.of(k, 2), 3);
            }
        }
    }

    // ---- promise 4

    @Says(promise = 4, value = {"THE SPACE is CURVED, without CURVES: 3.",
        "Whatever makes THE SPACE anew takes all CLASSES away;"})
    static void p04_curvedIsAnewFromEachSort() {
        Twins.Call curved = BlownSpaces::curved;
        for (Twins.Way way : new Twins.Way[] {Rooms::plane, Rooms::points, Rooms::curved, Rooms::conics, Rooms::full}) {
            BlownSpaces x = new BlownSpaces();
            way.go(x);
            Due.is("curved", curved.to(x), 3);
            spaceIs(x, 1, 3, 1, 4, 0, 4);
            Due.is("classes", x.count(0), 0);
            Due.is("to be undone", x.count(1), 0);
            Due.is("to be done again", x.count(2), 0);
            Due.is("the list stays", x.get(1, 0), 10);
        }
    }

    @Says(promise = 4, value = "THE SPACE is CURVED, without CURVES: 3.")
    static void p04_curvedAgainTakesCurvesAndClasses() {
        BlownSpaces x = curved(2, 1, 3, 0, 1, 0);
        Due.read(x, "a+w");
        Due.is("curved", x.curved(), 3);
        spaceIs(x, 1, 3, 1, 4, 0, 4);
        Due.is("classes", x.count(0), 0);
        Due.is("u is a letter no more", Due.read(x, "u"), -100);
        Due.is("a curve comes as 0", x.curve(9, 9), 0);
        Due.is("of its own degree and genus", x.worth(30), 2 - 18 - 36);
    }

    // ---- promise 5

    @Says(promise = 5, value = {"A CURVE more: its number.", "BAD: d, g;",
        "SORT 1 CURVED: n is 3; 0 to 3 CURVES, each with a DEGREE d (1 .. 9) and a GENUS g (0 .. 9): LETTERS a, then u,"
        + " v, w, one for each CURVE."})
    static void p05_degreeIs1To9() {
        Twins.Way empty = BlownSpaces::curved;
        for (int d : new int[] {0, 10, -1, LEAST, MOST}) {
            Twins.keep("degree " + d, Rooms::curved, x -> x.curve(d, 0), BAD);
            Due.is("degree " + d + " at first", curved().curve(d, 0), BAD);
        }
        for (int d = 1; d <= 9; d++) {
            BlownSpaces x = new BlownSpaces();
            empty.go(x);
            Due.is("degree " + d, x.curve(d, 0), 0);
            Due.is("worth of au^2", x.worth(21), -d);
        }
    }

    @Says(promise = 5, value = {"BAD: d, g;", "a GENUS g (0 .. 9)"})
    static void p05_genusIs0To9() {
        for (int g : new int[] {-1, 10, LEAST, MOST}) {
            Twins.keep("genus " + g, Rooms::curved, x -> x.curve(1, g), BAD);
            Due.is("genus " + g + " at first", curved().curve(1, g), BAD);
        }
        for (int g = 0; g <= 9; g++) {
            BlownSpaces x = curved();
            Due.is("genus " + g, x.curve(1, g), 0);
            Due.is("worth of u^3", x.worth(30), -2 - 2 * g);
            Due.is("euler", x.space(3), 6 - 2 * g);
        }
    }

    @Says(promise = 5, value = {"FULL: 3.", "0 to 3 CURVES"})
    static void p05_threeCurvesAndNoFourth() {
        BlownSpaces x = curved();
        for (int k = 0; k < 3; k++) {
            Due.is("curve", x.curve(k + 1, k), k);
            Due.is("curves", x.space(4), k + 1);
            Due.is("letters", x.space(2), k + 2);
        }
        Due.is("a fourth", x.curve(1, 0), FULL);
        Twins.keep("a fourth", y -> {
            Rooms.curved(y);
            y.curve(1, 0);
            y.curve(9, 9);
            y.set(0, 1, 9);
            y.set(0, 1, 8);
            y.undo();
        }, y -> y.curve(1, 0), FULL);
    }

    @Says(promise = 5, value = {"STATE: THE SPACE is not CURVED; BAD: d, g; FULL: 3.",
        "of several the first as the call's words name them"})
    static void p05_stateGoesAheadOfBadAndBadAheadOfFull() {
        Twins.keep("product", Rooms::plane, x -> x.curve(1, 0), STATE);
        Twins.keep("points", Rooms::points, x -> x.curve(1, 0), STATE);
        Twins.keep("conics", Rooms::conics, x -> x.curve(1, 0), STATE);
        Twins.keep("state ahead of bad", Rooms::conics, x -> x.curve(0, 10), STATE);
        Twins.keep("state ahead of bad", Rooms::plane, x -> x.curve(10, -1), STATE);
        BlownSpaces full = curved(1, 0, 1, 0, 1, 0);
        Due.is("bad ahead of full", full.curve(0, 0), BAD);
        Due.is("bad ahead of full", full.curve(1, 10), BAD);
        Due.is("full", full.curve(9, 9), FULL);
    }

    @Says(promise = 5, value = {"a POINT, a CURVE more leaves them (their numbers at TERMS with the new LETTER are 0).",
        "LETTERS a, then u, v, w, one for each CURVE."})
    static void p05_classesStayWithZeroAtTheNewLetter() {
        BlownSpaces x = curved();
        Due.read(x, "2a^3-3a+5");
        x.set(0, 0, 1);
        String[] letters = {"u", "v", "w"};
        int unit = 10;
        for (int k = 0; k < 3; k++) {
            Due.is("curve", x.curve(1, 0), k);
            Due.written(x, 0, "-2a^3+3a-5");
            for (int code : new int[] {unit, 2 * unit, 3 * unit, unit + 1, unit + 2, 2 * unit + 1}) {
                Due.is("number at the new letter", x.number(0, code), 0);
            }
            Due.is("the letter", Due.read(x, "a" + letters[k]), 1);
            Due.is("its number", x.number(1, unit + 1), 1);
            x.drop();
            unit *= 10;
        }
    }

    @Says(promise = 5, value = "What brings or takes CLASSES, LETTERS or THE SPACE, and back() leave none (where they are"
        + " not refused, by no FAULT).")
    static void p05_aCurveMoreLeavesNoChangesARefusedOneDoes() {
        BlownSpaces x = new BlownSpaces();
        Rooms.curved(x);
        Due.is("bad", x.curve(0, 0), BAD);
        Due.is("to be undone", x.count(1), 3);
        Due.is("to be done again", x.count(2), 1);
        Due.is("one more", x.curve(1, 0), 1);
        Due.is("to be undone", x.count(1), 0);
        Due.is("to be done again", x.count(2), 0);
    }

    @Says(promise = 5, value = "a POINT, a CURVE more leaves them (their numbers at TERMS with the new LETTER are 0).")
    static void p05_eightClassesStay() {
        BlownSpaces x = curved();
        for (int k = 0; k < 8; k++) {
            Due.read(x, "2a^3-a+" + (k + 1));
        }
        for (int curves = 0; curves <= 2; curves++) {
            Due.is("curve", x.curve(1, 0), curves);
            for (int k = 0; k < 8; k++) {
                Due.written(x, k, "2a^3-a+" + (k + 1));
                Due.is("terms", x.of(k, 2), 3);
            }
        }
    }

    // ---- promise 6

    @Says(promise = 6, value = {"THE SPACE is of all CONICS: 5.", "SORT 2 CONICS: n is 5: LETTERS a, v.",
        "Whatever makes THE SPACE anew takes all CLASSES away;"})
    static void p06_conicsIsAnewFromEachSort() {
        for (Twins.Way way : new Twins.Way[] {Rooms::plane, Rooms::points, Rooms::curved, Rooms::conics, Rooms::full}) {
            BlownSpaces x = new BlownSpaces();
            way.go(x);
            Due.is("conics", x.conics(), 5);
            spaceIs(x, 2, 5, 2, 12, 0, 21);
            Due.is("classes", x.count(0), 0);
            Due.is("to be undone", x.count(1), 0);
            Due.is("to be done again", x.count(2), 0);
            Due.is("the list stays", x.get(1, 0), 10);
        }
        BlownSpaces x = conics();
        Due.is("letters", Due.read(x, "av"), 0);
        Due.is("no other", Due.read(x, "u"), -100);
        Due.is("no other", Due.read(x, "b"), -100);
        Due.is("no other", Due.read(x, "p"), -100);
    }

    // ---- promise 7

    @Says(promise = 7, value = "SORT (what 0), n (1), LETTERS: how many (2), EULER (3), POINTS or CURVES: how many (4;"
        + " CONICS: 0), TERMS: how many (5). BAD.")
    static void p07_whatIs0To5() {
        for (int what : new int[] {-1, 6, LEAST, MOST}) {
            Twins.keepEverywhere("what " + what, x -> x.space(what), BAD);
        }
        spaceIs(product(2, 0, 0, 0), 0, 2, 1, 3, 0, 3);
        spaceIs(product(1, 2, 2, 3), 0, 5, 6, 18 + 12, 3, 462);
        spaceIs(curved(3, 2), 1, 3, 2, 2, 1, 10);
        spaceIs(conics(), 2, 5, 2, 12, 0, 21);
    }

    @Says(promise = 7, value = {"(4; CONICS: 0)", "TERMS: how many (5)"})
    static void p07_fewestAndMostTerms() {
        Due.is("a line", product(1, 0, 0, 0).space(5), 2);
        Due.is("a line with 3 points", product(1, 0, 0, 3).space(5), 5);
        Due.is("6 letters, n 3", product(1, 1, 1, 3).space(5), 84);
        Due.is("6 letters, n 5", product(3, 1, 1, 3).space(5), 462);
        Due.is("curved", curved().space(5), 4);
        Due.is("3 curves", curved(1, 1, 1, 1, 1, 1).space(5), 35);
        Due.is("conics", conics().space(5), 21);
        Due.is("no points or curves of conics", conics().space(4), 0);
    }

    @Says(promise = 7, value = "EULER of THE SPACE: PRODUCT: all (DIMENSION plus 1) multiplied, plus (n less 1) for each"
        + " POINT; CURVED: 4, plus (2 less 2 g) for each CURVE; CONICS: 12.")
    static void p07_eulerOfEachSpace() {
        Due.is("n 1: a point adds 0", product(1, 0, 0, 3).space(3), 2);
        Due.is("n 2: a point adds 1", product(1, 1, 0, 3).space(3), 7);
        Due.is("n 5: a point adds 4", product(5, 0, 0, 1).space(3), 10);
        Due.is("three factors", product(1, 1, 3, 0).space(3), 16);
        Due.is("no curves", curved().space(3), 4);
        Due.is("genus 1 adds 0", curved(9, 1).space(3), 4);
        Due.is("genus 0 adds 2", curved(1, 0, 9, 0, 5, 0).space(3), 10);
        Due.is("below 0", curved(1, 9, 1, 9, 1, 9).space(3), 4 - 48);
        Due.is("conics", conics().space(3), 12);
    }

    // ---- promise 8

    @Says(promise = 8, value = {"WORTH of the TERM with a CODE. VOID: BAD: no such TERM.",
        "A TERM: a power, 0 or more, of each LETTER, together n at most (its SIZE); its CODE: the power of LETTER 0, 10"
        + " times that of LETTER 1, 100 times that of LETTER 2, and so on, together."})
    static void p08_noTermAboveSizeNOrOfLettersThatAreNot() {
        for (int code : new int[] {-1, LEAST, MOST, 1000000, 10000000}) {
            Twins.keepEverywhere("code " + code, x -> x.worth(code), VOID);
        }
        BlownSpaces x = product(2, 0, 0, 0);
        Due.is("a^2", x.worth(2), 1);
        Due.is("a^3", x.worth(3), VOID);
        Due.is("a^9", x.worth(9), VOID);
        Due.is("p, without points", x.worth(10), VOID);
        x.blow();
        Due.is("p", x.worth(10), 0);
        Due.is("p^2", x.worth(20), -1);
        Due.is("ap^2", x.worth(21), VOID);
        Due.is("p^3", x.worth(30), VOID);
        Due.is("q, without a second", x.worth(100), VOID);
        x = product(3, 1, 1, 3);
        Due.is("r^5", x.worth(500000), 1);
        Due.is("ar^5", x.worth(500001), VOID);
        Due.is("r^6", x.worth(600000), VOID);
        Due.is("a seventh letter", x.worth(1000000), VOID);
        Due.is("a seventh letter", x.worth(1000001), VOID);
    }

    @Says(promise = 8, value = {"VOID: BAD: no such TERM.", "together n at most (its SIZE); its CODE: the power of LETTER 0, 10"
        + " times that of LETTER 1, 100 times that of LETTER 2, and so on, together."})
    static void p08_everyCodeIsATermOrNot() {
        everyCode(3, 1, 1, 3);
        everyCode(1, 1, 1, 3);
        everyCode(2, 2, 0, 3);
        everyCode(1, 0, 0, 3);
        everyCode(5, 0, 0, 0);
    }

    private static void everyCode(int a, int b, int c, int points) {
        int n = a + b + c;
        int letters = 1 + (b > 0 ? 1 : 0) + (c > 0 ? 1 : 0) + points;
        int terms = 0;
        int otherwise = 0;
        BlownSpaces x = null;
        for (int code = 0; code < 1100000; code++) {
            if (code % 500 == 0) {
                x = new BlownSpaces();
                x.product(a, b, c);
                for (int k = 0; k < points; k++) {
                    x.blow();
                }
            }
            boolean isTerm = sizeOf(code) <= n && code < Math.pow(10, letters);
            terms += isTerm ? 1 : 0;
            otherwise += (x.worth(code) != VOID) == isTerm ? 0 : 1;
        }
        Due.is("how many terms", x.space(5), terms);
        Due.is("codes that are otherwise", otherwise, 0);
    }

    private static int sizeOf(int code) {
        return code == 0 ? 0 : code % 10 + sizeOf(code / 10);
    }

    @Says(promise = 8, value = "WORTH of a TERM (0, if its SIZE is not n)")
    static void p08_worthIs0IfTheSizeIsNotN() {
        BlownSpaces x = product(2, 0, 0, 1);
        for (int code : new int[] {0, 1, 10}) {
            Due.is("code " + code, x.worth(code), 0);
        }
        x = curved(2, 0);
        for (int code : new int[] {0, 1, 2, 10, 20, 11}) {
            Due.is("code " + code, x.worth(code), 0);
        }
        x = conics();
        for (int code : new int[] {0, 4, 31, 22, 40, 30}) {
            Due.is("code " + code, x.worth(code), 0);
        }
    }

    @Says(promise = 8, value = "PRODUCT: 1, if the power of each FACTOR's LETTER is its DIMENSION; of p, q, r: n of one"
        + " of these alone (no other LETTERS): 1, if n is odd, else -1; all others 0.")
    static void p08_worthOfAProduct() {
        for (int n = 1; n <= 5; n++) {
            BlownSpaces x = product(n, 0, 0, 3);
            Due.is("a^n", x.worth(n), 1);
            Due.is("p^n", x.worth(10 * n), n % 2 == 0 ? -1 : 1);
            Due.is("q^n", x.worth(100 * n), n % 2 == 0 ? -1 : 1);
            Due.is("r^n", x.worth(1000 * n), n % 2 == 0 ? -1 : 1);
            Due.is("a and p^(n - 1)", x.worth(n == 1 ? 0 : 1 + 10 * (n - 1)), 0);
            Due.is("p and q^(n - 1)", x.worth(n == 1 ? 0 : 10 + 100 * (n - 1)), 0);
        }
        BlownSpaces x = product(1, 2, 1, 1);
        Due.is("ab^2c", x.worth(121), 1);
        Due.is("a^2bc", x.worth(112), 0);
        Due.is("b^4", x.worth(40), 0);
        Due.is("ab^2p", x.worth(1021), 0);
        Due.is("p^4", x.worth(4000), -1);
    }

    @Says(promise = 8, value = "CURVED: a^3: 1; a with a CURVE's LETTER twice: 0 less d; a CURVE's LETTER three times:"
        + " 2 less 2 g less 4 d; all others 0.")
    static void p08_worthInCurved() {
        BlownSpaces x = curved(1, 0, 9, 9, 4, 3);
        Due.is("a^3", x.worth(3), 1);
        Due.is("au^2", x.worth(21), -1);
        Due.is("av^2", x.worth(201), -9);
        Due.is("aw^2", x.worth(2001), -4);
        Due.is("u^3", x.worth(30), -2);
        Due.is("v^3", x.worth(300), 2 - 18 - 36);
        Due.is("w^3", x.worth(3000), 2 - 6 - 16);
        for (int code : new int[] {12, 102, 1002, 111, 1011, 1101, 120, 210, 1110, 2100, 1200, 2010}) {
            Due.is("code " + code, x.worth(code), 0);
        }
        Due.is("a^3, without curves", curved().worth(3), 1);
    }

    @Says(promise = 8, value = "CONICS: a^5: 1; a^2 v^3: 4; a v^4: 18; v^5: 51; all others 0.")
    static void p08_worthInConics() {
        BlownSpaces x = conics();
        long[] want = {1, 0, 0, 4, 18, 51};
        for (int v = 0; v <= 5; v++) {
            Due.is("v^" + v, x.worth(5 - v + 10 * v), want[v]);
        }
        Due.is("a^6", x.worth(6), VOID);
        Due.is("av^5", x.worth(51), VOID);
    }

    // ---- promise 9

    @Says(promise = 9, value = "The k-th TERM (from 0, in order): its CODE. BAD: k below 0; NOT: there is no such one.")
    static void p09_kIsFrom0ToTheLastTerm() {
        for (int k : new int[] {-1, LEAST}) {
            Twins.keepEverywhere("k " + k, x -> x.term(k), BAD);
        }
        Twins.keepEverywhere("k 462", x -> x.term(462), NOT);
        Twins.keepEverywhere("k most", x -> x.term(MOST), NOT);
        BlownSpaces x = product(1, 0, 0, 0);
        Due.is("0", x.term(0), 1);
        Due.is("1", x.term(1), 0);
        Due.is("2", x.term(2), NOT);
        x = product(3, 1, 1, 3);
        Due.is("461", x.term(461), 0);
        Due.is("462", x.term(462), NOT);
        x.product(1, 0, 0);
        Due.is("1", x.term(1), 0);
        Due.is("2 is one no more", x.term(2), NOT);
    }

    @Says(promise = 9, value = "TERMS stand in order: those with a greater power of LETTER 0 ahead, of like ones those"
        + " with a greater one of LETTER 1, and so on.")
    static void p09_termsStandInOrder() {
        termsAre(product(2, 0, 0, 0), 2, 1);
        termsAre(product(1, 1, 0, 1), 2, 3);
        termsAre(product(1, 1, 1, 0), 3, 3);
        termsAre(product(1, 0, 0, 3), 1, 4);
        termsAre(product(5, 0, 0, 1), 5, 2);
        termsAre(curved(1, 0, 1, 0), 3, 3);
        termsAre(conics(), 5, 2);
        BlownSpaces x = product(1, 1, 0, 0);
        int[] want = {2, 11, 1, 20, 10, 0};
        for (int k = 0; k < want.length; k++) {
            Due.is("term " + k, x.term(k), want[k]);
        }
    }

    /** All powers by themselves: the greatest of LETTER 0 first. */
    private static void termsAre(BlownSpaces x, int n, int letters) {
        List<Integer> codes = new ArrayList<>();
        gather(codes, n, letters, 0, 1);
        Due.is("how many", x.space(5), codes.size());
        for (int k = 0; k < codes.size(); k++) {
            Due.is("term " + k, x.term(k), codes.get(k));
        }
        Due.is("behind", x.term(codes.size()), NOT);
    }

    private static void gather(List<Integer> codes, int left, int letters, int code, int unit) {
        if (letters == 0) {
            codes.add(code);
            return;
        }
        for (int power = left; power >= 0; power--) {
            gather(codes, left - power, letters - 1, code + power * unit, unit * 10);
        }
    }
}
