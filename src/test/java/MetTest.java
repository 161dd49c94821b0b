/** Promises 16 to 22: what is met, chern rows, what is cut out. */
public final class MetTest {
    private static final int BAD = BlownSpaces.BAD;
    private static final long VOID = BlownSpaces.VOID, GONE = BlownSpaces.GONE;

    public static void main(String[] args) {
        met();
        meets();
        meetsAll();
        self();
        like();
        chern();
        cutOut();
        cutOutRefused();
        cutOutOfNothing();
        Due.end("MetTest");
    }

    /** Promise 16. */
    private static void met() {
        BlownSpaces x = new BlownSpaces();
        Due.is("no class", x.met(0), VOID);
        x.product(1, 1, 0);
        x.blow();
        Due.read(x, "7ab+3a^2-2b^2+5p^2+4ap+9a+8");
        Due.is("met", x.met(0), 2);
        x.set(0, 0, 2);
        x.set(0, 1, 2);
        Due.is("times 3", x.met(0), 6);
        x.set(0, 0, 3);
        Due.is("part 2", x.met(0), 2);
        x.set(0, 1, 1);
        Due.is("part 1", x.met(0), 0);
        x.set(0, 0, 4);
        Due.is("pulled", x.met(0), 14);
        Due.is("class 1", x.met(1), VOID);
        Due.is("class -1", x.met(-1), VOID);
        x.tell(0, 11, Long.MAX_VALUE);
        x.tell(0, 200, -1);
        x.set(0, 0, 0);
        Due.is("wraps", x.met(0), Long.MIN_VALUE);
    }

    /** Promise 17. */
    private static void meets() {
        BlownSpaces x = new BlownSpaces();
        x.product(2, 1, 0);
        Due.read(x, "2a+3b+a^2");
        Due.read(x, "5ab-a^2+7b-a^2b");
        Due.is("0 1", x.meets(0, 1), 10 - 3 + 7);
        Due.is("1 0", x.meets(1, 0), 14);
        Due.is("0 0", x.meets(0, 0), 6);
        x.set(1, 0, 1);
        Due.is("by numbers", x.meets(0, 1), -14);
        Due.is("none", x.meets(0, 2), VOID);
        Due.is("none", x.meets(2, 0), VOID);
        Due.is("none", x.meets(-1, 0), VOID);
        Due.is("none", x.meets(0, -1), VOID);
    }

    /** Promise 18. */
    private static void meetsAll() {
        BlownSpaces x = new BlownSpaces();
        x.product(3, 0, 0);
        Due.read(x, "2a+1");
        Due.read(x, "3a^2+a-1");
        Due.is("list 3", x.meetsAll(3), VOID);
        Due.is("list -1", x.meetsAll(-1), VOID);
        Due.is("missing", x.meetsAll(0), VOID);
        Due.list(x, 0, 0);
        Due.is("of none", x.meetsAll(0), 0);
        Due.list(x, 0, 0, 1);
        Due.is("of one", x.meetsAll(0), 0);
        Due.list(x, 0, 0, 0, 1);
        Due.is("of two", x.meetsAll(0), 6);
        Due.list(x, 0, 1, 0, 1, 0);
        Due.is("one twice", x.meetsAll(0), 4 + 12);
        Due.list(x, 0, 0, 0, 2);
        Due.is("no such class", x.meetsAll(0), GONE);
        Due.list(x, 0, 0, -1);
        Due.is("no such class", x.meetsAll(0), GONE);
        Due.list(x, 0, 1, 4294967296L);
        Due.is("a long of none", x.meetsAll(0), GONE);
        Due.list(x, 0, 0, 4294967296L);
        Due.is("its lowest bits", x.meetsAll(0), 0);
        Due.list(x, 2, 0, new long[20]);
        Due.is("twenty", x.meetsAll(2), 1140 * 8);
    }

    /** Promise 19. */
    private static void self() {
        BlownSpaces x = new BlownSpaces();
        Due.is("no class", x.self(0, 0), VOID);
        x.product(2, 2, 1);
        Due.read(x, "a+b+c");
        long[] want = {0, 0, 0, 0, 0, 30, 0};
        for (int k = 0; k <= 6; k++) {
            Due.is("self " + k, x.self(0, k), want[k]);
        }
        Due.is("-1", x.self(0, -1), VOID);
        Due.is("7", x.self(0, 7), VOID);
        Due.is("class 1", x.self(1, 5), VOID);
        x.tell(0, 0, 1);
        Due.is("self 6 with 1", x.self(0, 6), 180);
        x.set(0, 0, 1);
        Due.is("self 5, minus", x.self(0, 5), -30);
    }

    /** Promise 20. */
    private static void like() {
        BlownSpaces x = new BlownSpaces();
        x.product(1, 1, 0);
        Due.read(x, "a^2+b");
        Due.read(x, "b");
        Due.read(x, "b+b^2");
        Due.read(x, "a");
        Due.read(x, "ab");
        Due.read(x, "0");
        Due.is("a^2 is met by none", x.like(0, 1), 1);
        Due.is("0 2", x.like(0, 2), 1);
        Due.is("0 0", x.like(0, 0), 1);
        Due.is("1 3", x.like(1, 3), 0);
        Due.is("3 4", x.like(3, 4), 0);
        Due.is("4 5", x.like(4, 5), 0);
        x.set(1, 0, 1);
        Due.is("by numbers", x.like(0, 1), 0);
        Due.is("no class", x.like(0, 6), BAD);
        Due.is("no class", x.like(6, 0), BAD);
        Due.is("no class", x.like(-1, 0), BAD);
        Due.is("no class", x.like(0, -1), BAD);
        x.product(2, 0, 0);
        x.blow();
        Due.read(x, "p^2");
        Due.read(x, "-a^2");
        Due.read(x, "ap");
        Due.read(x, "0");
        Due.is("p^2 as -a^2", x.like(0, 1), 1);
        Due.is("ap as 0", x.like(2, 3), 1);
        Due.read(x, "1");
        Due.is("1 as 0", x.like(4, 3), 0);
        x.curved();
        x.curve(2, 0);
        Due.read(x, "u^2");
        Due.read(x, "-2a^2+3au");
        Due.read(x, "-2a^2+2au");
        Due.is("u^2 by a -2, by u -6", x.like(0, 1), 1);
        Due.is("met by a alike, by u not", x.like(0, 2), 0);
    }

    /** Promise 21. */
    private static void chern() {
        BlownSpaces x = new BlownSpaces();
        x.product(5, 0, 0);
        long[] row = {1, 6, 15, 20, 15, 6};
        for (int k = 0; k <= 5; k++) {
            Due.is("chern " + k, x.chern(k), row[k]);
        }
        Due.is("a^6", x.chern(6), VOID);
        Due.is("below", x.chern(-1), VOID);
        x.product(1, 2, 0);
        Due.is("a", x.chern(1), 2);
        Due.is("a^2", x.chern(2), 1);
        Due.is("a^3", x.chern(3), 0);
        Due.is("b", x.chern(10), 3);
        Due.is("ab", x.chern(11), 6);
        Due.is("ab^2", x.chern(21), 6);
        Due.is("b^3", x.chern(30), 1);
        Due.is("a^2b", x.chern(12), 3);
        Due.is("ab^3", x.chern(31), VOID);
        x.blow();
        Due.is("points", x.chern(0), GONE);
        Due.is("void ahead of gone", x.chern(4), VOID);
        x.curved();
        Due.is("curved", x.chern(0), GONE);
        x.conics();
        Due.is("conics", x.chern(0), GONE);
    }

    private static void cutIs(BlownSpaces x, int list, long... want) {
        for (int k = 0; k < want.length; k++) {
            Due.is("cutOut(" + list + ", " + k + ")", x.cutOut(list, k), want[k]);
        }
    }

    /** Promise 22. */
    private static void cutOut() {
        BlownSpaces x = new BlownSpaces();
        x.product(2, 0, 0);
        for (int d = 1; d <= 6; d++) {
            Due.is("read", Due.read(x, d + "a"), d - 1);
        }
        Due.list(x, 0, 0, 0);
        for (int d = 1; d <= 6; d++) {
            x.put(0, 0, d - 1);
            cutIs(x, 0, 1, -3L * d, 3L * d - (long) d * d, (d - 1L) * (d - 2L) / 2L);
        }
        Due.list(x, 0, 1, 2, 3);
        cutIs(x, 0, 0, 12, 12, GONE);
        Due.list(x, 0, 1);
        cutIs(x, 0, 2, 9, 3, GONE);
        x.product(4, 0, 0);
        Due.read(x, "5a");
        Due.read(x, "-a");
        Due.list(x, 1, 0, 0);
        cutIs(x, 1, 3, -625, -200, GONE);
        Due.list(x, 1, 0, 0, 0, 0);
        cutIs(x, 1, 1, -625, -125 * 10, 626);
        Due.list(x, 1, 0, 0, 0, 0, 0);
        cutIs(x, 1, 0, 625, 625, GONE);
        x.product(1, 2, 0);
        Due.read(x, "2a+3b");
        Due.read(x, "a+b");
        Due.list(x, 1, 0, 0);
        cutIs(x, 1, 2, 2 * 9 + 3 * 12, 24, GONE);
        Due.list(x, 1, 0, 0, 1);
        cutIs(x, 1, 1, -2 * 3 - 3 * 5, -3 - 5, 5);
    }

    /** Promise 22, what is refused. */
    private static void cutOutRefused() {
        BlownSpaces x = new BlownSpaces();
        Due.read(x, "a");
        Due.read(x, "a^2");
        Due.read(x, "1");
        Due.is("list", x.cutOut(3, 0), VOID);
        Due.is("list", x.cutOut(-1, 0), VOID);
        Due.is("missing", x.cutOut(0, 0), VOID);
        Due.list(x, 0, 0, 0);
        Due.is("what", x.cutOut(0, -1), VOID);
        Due.is("what", x.cutOut(0, 4), VOID);
        Due.list(x, 0, 0, 0, 0, 0);
        Due.is("more than n", x.cutOut(0, 0), GONE);
        Due.list(x, 0, 0, 3);
        Due.is("no class", x.cutOut(0, 0), GONE);
        Due.list(x, 0, 0, -1);
        Due.is("no class", x.cutOut(0, 0), GONE);
        Due.list(x, 0, 1, 4294967296L);
        Due.is("no class", x.cutOut(0, 0), GONE);
        Due.list(x, 0, 0, 1);
        Due.is("size 2", x.cutOut(0, 0), GONE);
        Due.list(x, 0, 0, 2);
        Due.is("size 0", x.cutOut(0, 0), GONE);
        x.set(1, 0, 3);
        x.set(1, 1, 1);
        Due.list(x, 0, 0, 1);
        Due.is("by numbers none", x.cutOut(0, 0), 1);
        x.blow();
        Due.list(x, 0, 0, 0);
        Due.is("points", x.cutOut(0, 0), GONE);
        Due.is("void ahead of gone", x.cutOut(0, 4), VOID);
        x.curved();
        Due.read(x, "a");
        Due.is("curved", x.cutOut(0, 0), GONE);
        x.conics();
        Due.read(x, "a");
        Due.is("conics", x.cutOut(0, 0), GONE);
    }

    /** A CLASS without NUMBERS can be CUT OUT; the half of EULER is cut toward 0. */
    private static void cutOutOfNothing() {
        BlownSpaces x = new BlownSpaces();
        Due.read(x, "0");
        Due.read(x, "a");
        Due.list(x, 0, 0, 0);
        cutIs(x, 0, 1, 0, 0, 1);
        x.set(1, 0, 1);
        Due.list(x, 0, 0, 1);
        cutIs(x, 0, 1, 3, -4, 3);
        x.product(1, 0, 0);
        Due.list(x, 0, 0);
        cutIs(x, 0, 1, -2, 2, 0);
        x.product(3, 1, 1);
        cutIs(x, 0, 5, -5120, 16, GONE);
        x.product(1, 1, 0);
        Due.read(x, "a-b");
        Due.list(x, 0, 0, 0);
        cutIs(x, 0, 1, 0, 2, 0);
    }
}
