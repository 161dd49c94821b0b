/** Promises 10 to 15: classes. */
public final class ClassTest {
    private static final int BAD = BlownSpaces.BAD, NOT = BlownSpaces.NOT;
    private static final int FULL = BlownSpaces.FULL, STATE = BlownSpaces.STATE;
    private static final long VOID = BlownSpaces.VOID;

    public static void main(String[] args) {
        set();
        tell();
        of();
        number();
        kindsInCurvedAndConics();
        drop();
        canonical();
        Due.end("ClassTest");
    }

    /** Promise 10. */
    private static void set() {
        BlownSpaces x = new BlownSpaces();
        Due.is("no class", x.set(0, 0, 0), BAD);
        Due.read(x, "a");
        Due.is("kind", x.set(0, 0, 5), 0);
        Due.is("kind", x.set(0, 0, 5), 5);
        Due.is("kind", x.set(0, 0, 3), 5);
        Due.is("figure", x.set(0, 1, 9), 0);
        Due.is("figure", x.set(0, 1, 4), 9);
        Due.is("kind 6", x.set(0, 0, 6), BAD);
        Due.is("kind -1", x.set(0, 0, -1), BAD);
        Due.is("figure 10", x.set(0, 1, 10), BAD);
        Due.is("figure -1", x.set(0, 1, -1), BAD);
        Due.is("what 2", x.set(0, 2, 0), BAD);
        Due.is("what -1", x.set(0, -1, 0), BAD);
        Due.is("class 1", x.set(1, 0, 0), BAD);
        Due.is("class -1", x.set(-1, 0, 0), BAD);
        Due.is("kind", x.of(0, 0), 3);
        Due.is("figure", x.of(0, 1), 4);
        Due.is("changes", x.count(1), 4);
    }

    /** Promise 11. */
    private static void tell() {
        BlownSpaces x = new BlownSpaces();
        Due.is("no class", x.tell(0, 0, 1), BAD);
        Due.read(x, "a");
        Due.is("a^2", x.tell(0, 2, Long.MAX_VALUE), 1);
        Due.is("a", x.tell(0, 1, 0), 1);
        Due.is("as it is", x.tell(0, 1, 0), 1);
        Due.is("a^3", x.tell(0, 3, 1), BAD);
        Due.is("b", x.tell(0, 10, 1), BAD);
        Due.is("-1", x.tell(0, -1, 1), BAD);
        Due.is("class 1", x.tell(1, 0, 1), BAD);
        Due.is("class -1", x.tell(-1, 0, 1), BAD);
        Due.written(x, 0, "9223372036854775807a^2");
        Due.is("no change", x.count(1), 0);
        x.set(0, 0, 1);
        x.set(0, 0, 3);
        x.undo();
        x.tell(0, 2, 5);
        Due.is("ends none undone", x.count(1), 1);
        Due.is("ends none done again", x.count(2), 1);
        Due.is("what is told, not number", x.number(0, 2), -5);
    }

    /** Promise 12. */
    private static void of() {
        BlownSpaces x = new BlownSpaces();
        x.product(3, 0, 0);
        Due.is("no class", x.of(0, 0), BAD);
        Due.read(x, "a^3-2a+5");
        Due.is("kind", x.of(0, 0), 0);
        Due.is("figure", x.of(0, 1), 0);
        Due.is("terms", x.of(0, 2), 3);
        Due.is("greatest", x.of(0, 3), 3);
        Due.is("least", x.of(0, 4), 0);
        Due.is("what 5", x.of(0, 5), BAD);
        Due.is("what -1", x.of(0, -1), BAD);
        Due.is("class 1", x.of(1, 2), BAD);
        Due.is("class -1", x.of(-1, 2), BAD);
        x.set(0, 0, 3);
        x.set(0, 1, 1);
        Due.is("terms", x.of(0, 2), 1);
        Due.is("greatest", x.of(0, 3), 1);
        Due.is("least", x.of(0, 4), 1);
        x.set(0, 1, 2);
        Due.is("terms", x.of(0, 2), 0);
        Due.is("greatest", x.of(0, 3), NOT);
        Due.is("least", x.of(0, 4), NOT);
        Due.is("kind", x.of(0, 0), 3);
        Due.is("figure", x.of(0, 1), 2);
    }

    private static void numbers(BlownSpaces x, int kind, int figure, long... want) {
        int[] codes = {0, 1, 2, 10, 11, 100, 101};
        x.set(0, 0, kind);
        x.set(0, 1, figure);
        for (int k = 0; k < codes.length; k++) {
            Due.is("kind " + kind + " figure " + figure + " code " + codes[k], x.number(0, codes[k]), want[k]);
        }
    }

    /** Promise 13, by each KIND. */
    private static void number() {
        BlownSpaces x = new BlownSpaces();
        x.product(2, 1, 0);
        x.blow();
        Due.is("no class", x.number(0, 0), VOID);
        Due.read(x, "7+2a+3a^2+4b+5ab+6p+8ap");
        numbers(x, 0, 4, 7, 2, 3, 4, 5, 6, 8);
        numbers(x, 1, 4, -7, -2, -3, -4, -5, -6, -8);
        numbers(x, 2, 0, 7, 2, 3, 4, 5, 6, 8);
        numbers(x, 2, 9, 70, 20, 30, 40, 50, 60, 80);
        numbers(x, 3, 0, 7, 0, 0, 0, 0, 0, 0);
        numbers(x, 3, 1, 0, 2, 0, 4, 0, 6, 0);
        numbers(x, 3, 2, 0, 0, 3, 0, 5, 0, 8);
        numbers(x, 3, 9, 0, 0, 0, 0, 0, 0, 0);
        numbers(x, 4, 0, 7, 2, 3, 4, 5, 0, 0);
        numbers(x, 4, 2, 21, 6, 9, 12, 15, 0, 0);
        numbers(x, 5, 3, 7, -2, 3, -4, 5, -6, 8);
        Due.is("class 1", x.number(1, 0), VOID);
        Due.is("class -1", x.number(-1, 0), VOID);
        Due.is("code", x.number(0, 4), VOID);
        Due.is("code", x.number(0, 1000), VOID);
        Due.is("code", x.number(0, -1), VOID);
        x.tell(0, 0, Long.MIN_VALUE);
        x.tell(0, 1, Long.MIN_VALUE);
        x.set(0, 0, 1);
        Due.is("minus wraps", x.number(0, 0), Long.MIN_VALUE);
        x.set(0, 0, 5);
        Due.is("dual wraps", x.number(0, 1), Long.MIN_VALUE);
        x.tell(0, 0, Long.MAX_VALUE);
        x.set(0, 0, 2);
        x.set(0, 1, 9);
        Due.is("times wraps", x.number(0, 0), -10);
        x.set(0, 0, 4);
        Due.is("pulled wraps", x.number(0, 0), -10);
    }

    private static void kindsInCurvedAndConics() {
        BlownSpaces x = new BlownSpaces();
        x.curved();
        x.curve(1, 0);
        Due.read(x, "2a^2u+3a^2+4u+5");
        x.set(0, 0, 4);
        x.set(0, 1, 1);
        Due.written(x, 0, "6a^2+10");
        x.conics();
        Due.read(x, "2a^2v+3a^2+4v+5");
        x.set(0, 0, 4);
        Due.written(x, 0, "3a^2+5");
        x.set(0, 0, 5);
        Due.written(x, 0, "-2a^2v+3a^2-4v+5");
    }

    /** Promise 14. */
    private static void drop() {
        BlownSpaces x = new BlownSpaces();
        Due.is("none", x.drop(), STATE);
        Due.read(x, "a");
        Due.read(x, "2a");
        x.set(0, 0, 1);
        x.set(1, 0, 2);
        Due.is("one", x.drop(), 1);
        Due.is("changes", x.count(1), 0);
        Due.is("undo", x.undo(), STATE);
        Due.is("gone", x.met(1), VOID);
        Due.written(x, 0, "-a");
        Due.is("again", Due.read(x, "3"), 1);
        Due.is("new of kind 0", x.of(1, 0), 0);
        Due.written(x, 1, "3");
        Due.is("one", x.drop(), 1);
        Due.is("none", x.drop(), 0);
        Due.is("none", x.drop(), STATE);
    }

    private static void canonicalIs(BlownSpaces x, String want) {
        int number = x.count(0);
        Due.is("canonical", x.canonical(), number);
        Due.is("kind", x.of(number, 0), 0);
        Due.is("figure", x.of(number, 1), 0);
        Due.written(x, number, want);
    }

    /** Promise 15. */
    private static void canonical() {
        BlownSpaces x = new BlownSpaces();
        canonicalIs(x, "-3a");
        x.product(1, 2, 2);
        canonicalIs(x, "-2a-3b-3c");
        x.blow();
        x.blow();
        canonicalIs(x, "-2a-3b-3c+4p+4q");
        x.product(1, 0, 0);
        x.blow();
        canonicalIs(x, "-2a");
        x.product(2, 0, 0);
        x.blow();
        canonicalIs(x, "-3a+p");
        x.curved();
        canonicalIs(x, "-4a");
        x.curve(2, 2);
        x.curve(2, 2);
        x.curve(2, 2);
        canonicalIs(x, "-4a+u+v+w");
        x.conics();
        canonicalIs(x, "-6a+2v");
        x.set(0, 0, 1);
        Due.is("changes", x.count(1), 1);
        canonicalIs(x, "-6a+2v");
        Due.is("changes", x.count(1), 0);
        for (int k = 2; k < 8; k++) {
            Due.is("canonical", x.canonical(), k);
        }
        x.set(0, 0, 0);
        Due.is("full", x.canonical(), FULL);
        Due.is("changes stay", x.count(1), 1);
    }
}
