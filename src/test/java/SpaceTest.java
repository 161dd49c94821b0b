/** Promises 1 to 9: the space. */
public final class SpaceTest {
    private static final int BAD = BlownSpaces.BAD, NOT = BlownSpaces.NOT;
    private static final int FULL = BlownSpaces.FULL, STATE = BlownSpaces.STATE;
    private static final long VOID = BlownSpaces.VOID;

    public static void main(String[] args) {
        newObject();
        product();
        blow();
        curved();
        curve();
        conics();
        space();
        worth();
        term();
        lettersMoreKeepWhatIsTold();
        Due.end("SpaceTest");
    }

    private static void spaceIs(BlownSpaces x, int... want) {
        for (int k = 0; k < want.length; k++) {
            Due.is("space(" + k + ")", x.space(k), want[k]);
        }
    }

    /** Promise 1. */
    private static void newObject() {
        BlownSpaces x = new BlownSpaces();
        spaceIs(x, 0, 2, 1, 3, 0, 3);
        for (int k = 0; k <= 5; k++) {
            Due.is("count(" + k + ")", x.count(k), 0);
        }
        Due.is("trace", x.trace(0), NOT);
        Due.is("paper", x.paper(0), NOT);
        Due.is("alike", x.alike(), STATE);
    }

    /** Promise 2. */
    private static void product() {
        BlownSpaces x = new BlownSpaces();
        Due.is("5 0 0", x.product(5, 0, 0), 5);
        spaceIs(x, 0, 5, 1, 6, 0, 6);
        Due.is("c does not matter", x.product(4, 0, 99), 4);
        Due.is("c does not matter", x.product(3, 0, -7), 3);
        spaceIs(x, 0, 3, 1, 4, 0, 4);
        Due.is("2 3 0", x.product(2, 3, 0), 5);
        spaceIs(x, 0, 5, 2, 12, 0, 21);
        Due.is("1 2 2", x.product(1, 2, 2), 5);
        spaceIs(x, 0, 5, 3, 18, 0, 56);
        Due.is("a 0", x.product(0, 1, 1), BAD);
        Due.is("a 6", x.product(6, 0, 0), BAD);
        Due.is("a below", x.product(-1, 3, 1), BAD);
        Due.is("b below", x.product(3, -1, 1), BAD);
        Due.is("b 6", x.product(1, 6, -2), BAD);
        Due.is("c below", x.product(3, 1, -1), BAD);
        Due.is("c 6", x.product(1, 1, 6), BAD);
        Due.is("6 together", x.product(2, 2, 2), BAD);
        Due.is("6 of two", x.product(1, 5, 0), BAD);
        Due.is("wrapping", x.product(2, Integer.MAX_VALUE, Integer.MAX_VALUE), BAD);
        Due.is("wrapping", x.product(5, 5, Integer.MIN_VALUE), BAD);
        spaceIs(x, 0, 5, 3, 18, 0, 56);
        x.canonical();
        x.blow();
        Due.is("bad leaves", x.product(0, 0, 0), BAD);
        Due.is("classes stay", x.count(0), 1);
        Due.is("as it was already", x.product(1, 2, 2), 5);
        Due.is("takes classes", x.count(0), 0);
        Due.is("takes points", x.space(4), 0);
    }

    /** Promise 3. */
    private static void blow() {
        BlownSpaces x = new BlownSpaces();
        x.product(2, 2, 1);
        Due.is("1", x.blow(), 1);
        spaceIs(x, 0, 5, 4, 22, 1, 126);
        Due.is("2", x.blow(), 2);
        spaceIs(x, 0, 5, 5, 26, 2, 252);
        Due.is("3", x.blow(), 3);
        spaceIs(x, 0, 5, 6, 30, 3, 462);
        Due.is("full", x.blow(), FULL);
        Due.is("points", x.space(4), 3);
        x.curved();
        Due.is("curved", x.blow(), STATE);
        x.conics();
        Due.is("conics", x.blow(), STATE);
        x.product(1, 0, 0);
        Due.is("line", x.blow(), 1);
        spaceIs(x, 0, 1, 2, 2, 1, 3);
    }

    /** Promise 4. */
    private static void curved() {
        BlownSpaces x = new BlownSpaces();
        x.canonical();
        Due.is("curved", x.curved(), 3);
        spaceIs(x, 1, 3, 1, 4, 0, 4);
        Due.is("classes", x.count(0), 0);
        x.curve(2, 1);
        x.canonical();
        Due.is("curved", x.curved(), 3);
        spaceIs(x, 1, 3, 1, 4, 0, 4);
        Due.is("classes", x.count(0), 0);
    }

    /** Promise 5. */
    private static void curve() {
        BlownSpaces x = new BlownSpaces();
        Due.is("no curved", x.curve(1, 0), STATE);
        Due.is("no curved ahead of bad", x.curve(0, 0), STATE);
        x.conics();
        Due.is("conics", x.curve(1, 0), STATE);
        x.curved();
        Due.is("d 0", x.curve(0, 0), BAD);
        Due.is("d 10", x.curve(10, 0), BAD);
        Due.is("g -1", x.curve(1, -1), BAD);
        Due.is("g 10", x.curve(1, 10), BAD);
        spaceIs(x, 1, 3, 1, 4, 0, 4);
        Due.is("0", x.curve(9, 9), 0);
        spaceIs(x, 1, 3, 2, -12, 1, 10);
        Due.is("1", x.curve(1, 0), 1);
        spaceIs(x, 1, 3, 3, -10, 2, 20);
        Due.is("2", x.curve(3, 1), 2);
        spaceIs(x, 1, 3, 4, -10, 3, 35);
        Due.is("full", x.curve(1, 0), FULL);
        Due.is("bad ahead of full", x.curve(1, 10), BAD);
        Due.is("worth u^3", x.worth(30), 2 - 18 - 36);
    }

    /** Promise 6. */
    private static void conics() {
        BlownSpaces x = new BlownSpaces();
        x.canonical();
        x.blow();
        Due.is("conics", x.conics(), 5);
        spaceIs(x, 2, 5, 2, 12, 0, 21);
        Due.is("classes", x.count(0), 0);
    }

    /** Promise 7. */
    private static void space() {
        BlownSpaces x = new BlownSpaces();
        Due.is("-1", x.space(-1), BAD);
        Due.is("6", x.space(6), BAD);
        x.product(1, 1, 1);
        spaceIs(x, 0, 3, 3, 8, 0, 20);
        x.blow();
        spaceIs(x, 0, 3, 4, 10, 1, 35);
    }

    /** Promise 8. */
    private static void worth() {
        BlownSpaces x = new BlownSpaces();
        x.product(1, 2, 0);
        x.blow();
        x.blow();
        Due.is("ab^2", x.worth(21), 1);
        Due.is("a^2b", x.worth(12), 0);
        Due.is("p^3", x.worth(300), 1);
        Due.is("q^3", x.worth(3000), 1);
        Due.is("p^2q", x.worth(1200), 0);
        Due.is("ap^2", x.worth(201), 0);
        Due.is("small size", x.worth(20), 0);
        Due.is("1", x.worth(0), 0);
        Due.is("size 4", x.worth(22), VOID);
        Due.is("no such letter", x.worth(10000), VOID);
        Due.is("below", x.worth(-1), VOID);
        Due.is("far", x.worth(1000000), VOID);
        Due.is("far", x.worth(Integer.MAX_VALUE), VOID);
        Due.is("far", x.worth(Integer.MIN_VALUE), VOID);
        x.product(1, 1, 0);
        x.blow();
        Due.is("p^2, n even", x.worth(200), -1);
        x.product(1, 0, 0);
        x.blow();
        Due.is("p, n 1", x.worth(10), 1);
        Due.is("a, n 1", x.worth(1), 1);
        x.curved();
        x.curve(4, 2);
        x.curve(5, 0);
        Due.is("a^3", x.worth(3), 1);
        Due.is("a^2u", x.worth(12), 0);
        Due.is("au^2", x.worth(21), -4);
        Due.is("av^2", x.worth(201), -5);
        Due.is("auv", x.worth(111), 0);
        Due.is("u^3", x.worth(30), 2 - 4 - 16);
        Due.is("v^3", x.worth(300), 2 - 20);
        Due.is("u^2v", x.worth(120), 0);
        Due.is("no w", x.worth(1000), VOID);
        x.conics();
        Due.is("a^5", x.worth(5), 1);
        Due.is("a^4v", x.worth(14), 0);
        Due.is("a^3v^2", x.worth(23), 0);
        Due.is("a^2v^3", x.worth(32), 4);
        Due.is("av^4", x.worth(41), 18);
        Due.is("v^5", x.worth(50), 51);
        Due.is("size 4", x.worth(40), 0);
        Due.is("size 6", x.worth(60), VOID);
    }

    /** Promise 9. */
    private static void term() {
        BlownSpaces x = new BlownSpaces();
        x.blow();
        int[] want = {2, 11, 1, 20, 10, 0};
        for (int k = 0; k < want.length; k++) {
            Due.is("term(" + k + ")", x.term(k), want[k]);
        }
        Due.is("behind", x.term(6), NOT);
        Due.is("far behind", x.term(Integer.MAX_VALUE), NOT);
        Due.is("below", x.term(-1), BAD);
        Due.is("far below", x.term(Integer.MIN_VALUE), BAD);
        x.product(2, 2, 1);
        x.blow();
        x.blow();
        x.blow();
        Due.is("first", x.term(0), 5);
        Due.is("second", x.term(1), 14);
        Due.is("last but one", x.term(460), 100000);
        Due.is("last", x.term(461), 0);
        Due.is("behind", x.term(462), NOT);
    }

    private static void lettersMoreKeepWhatIsTold() {
        BlownSpaces x = new BlownSpaces();
        x.product(2, 1, 0);
        Due.read(x, "5a^2b-3ab+2b^2-7a+9");
        Due.read(x, "b^3-4");
        x.set(0, 0, 2);
        x.set(0, 1, 1);
        x.blow();
        Due.written(x, 0, "10a^2b-6ab-14a+4b^2+18");
        Due.written(x, 1, "b^3-4");
        x.tell(0, 300, 8);
        x.tell(0, 101, 6);
        x.blow();
        x.blow();
        Due.written(x, 0, "10a^2b-6ab+12ap-14a+4b^2+16p^3+18");
        Due.written(x, 1, "b^3-4");
        x.curved();
        Due.read(x, "a^3+2a^2+3a+4");
        x.curve(2, 0);
        x.tell(0, 30, 5);
        x.curve(1, 0);
        Due.written(x, 0, "a^3+2a^2+3a+5u^3+4");
    }
}
