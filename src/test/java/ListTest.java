/** Promises 33 to 36: lists. */
public final class ListTest {
    private static final int BAD = BlownSpaces.BAD;
    private static final long VOID = BlownSpaces.VOID;

    public static void main(String[] args) {
        list();
        put();
        get();
        copy();
        copyRefused();
        Due.end("ListTest");
    }

    private static void holds(BlownSpaces x, int list, long... want) {
        for (int k = 0; k < want.length; k++) {
            Due.is("get(" + list + ", " + k + ")", x.get(list, k), want[k]);
        }
        Due.is("behind its end", x.get(list, want.length), VOID);
    }

    /** Promise 33. */
    private static void list() {
        BlownSpaces x = new BlownSpaces();
        Due.is("list 3", x.list(3, 0, 1), BAD);
        Due.is("list -1", x.list(-1, 0, 1), BAD);
        Due.is("sort 2", x.list(0, 2, 1), BAD);
        Due.is("sort -2", x.list(0, -2, 1), BAD);
        Due.is("n 21", x.list(0, 0, 21), BAD);
        Due.is("n -1", x.list(0, 1, -1), -14);
        Due.is("bad ahead of below", x.list(0, 2, -1), BAD);
        Due.is("none", x.count(5), 0);
        Due.is("n 0", x.list(0, 0, 0), 1);
        holds(x, 0);
        Due.is("n 20", x.list(1, 1, 20), 1);
        holds(x, 1, new long[20]);
        Due.is("two", x.count(5), 2);
        x.put(1, 19, 5);
        Due.is("refused", x.list(1, 1, 21), BAD);
        Due.is("stays", x.get(1, 19), 5);
        Due.is("anew", x.list(1, 1, 20), 1);
        Due.is("all 0", x.get(1, 19), 0);
        Due.is("missing", x.list(1, -1, 99), 1);
        Due.is("missing", x.list(0, -1, -99), 1);
        Due.is("missing already", x.list(2, -1, 0), 1);
        Due.is("none", x.count(5), 0);
        Due.is("gone", x.get(1, 0), VOID);
    }

    /** Promise 34. */
    private static void put() {
        BlownSpaces x = new BlownSpaces();
        Due.is("list 3", x.put(3, 0, 1), BAD);
        Due.is("list -1", x.put(-1, 0, 1), BAD);
        Due.is("missing", x.put(0, 0, 1), -11);
        x.list(0, 0, 2);
        x.list(1, 1, 2);
        Due.is("place 2", x.put(0, 2, 1), -13);
        Due.is("place -1", x.put(0, -1, 1), -13);
        Due.is("int", x.put(0, 0, 0x1_8000_0000L), 1);
        Due.is("int", x.put(0, 1, -1), 1);
        holds(x, 0, Integer.MIN_VALUE, -1);
        Due.is("long", x.put(1, 0, 0x1_8000_0000L), 1);
        Due.is("long", x.put(1, 1, Long.MIN_VALUE), 1);
        holds(x, 1, 0x1_8000_0000L, Long.MIN_VALUE);
        x.list(0, 0, 0);
        Due.is("no places", x.put(0, 0, 1), -13);
    }

    /** Promise 35. */
    private static void get() {
        BlownSpaces x = new BlownSpaces();
        Due.is("list 3", x.get(3, 0), VOID);
        Due.is("list -1", x.get(-1, 0), VOID);
        Due.is("missing", x.get(0, 0), VOID);
        Due.list(x, 0, 1, 7, 8, 9);
        holds(x, 0, 7, 8, 9);
        Due.is("place -1", x.get(0, -1), VOID);
        Due.is("far", x.get(0, Integer.MAX_VALUE), VOID);
        Due.is("far", x.get(0, Integer.MIN_VALUE), VOID);
    }

    /** Promise 36. */
    private static void copy() {
        BlownSpaces x = new BlownSpaces();
        Due.list(x, 0, 0, 1, 2, 3, 4, 5);
        Due.list(x, 1, 0, 9, 9, 9);
        Due.is("other", x.copy(0, 1, 1, 0, 3), 3);
        holds(x, 1, 2, 3, 4);
        Due.is("forward in its own", x.copy(0, 0, 0, 1, 4), 4);
        holds(x, 0, 1, 1, 2, 3, 4);
        Due.is("backward in its own", x.copy(0, 1, 0, 0, 4), 4);
        holds(x, 0, 1, 2, 3, 4, 4);
        Due.is("none", x.copy(0, 5, 1, 3, 0), 0);
        Due.is("whole", x.copy(1, 0, 0, 2, 3), 3);
        holds(x, 0, 1, 2, 2, 3, 4);
        holds(x, 1, 2, 3, 4);
        Due.list(x, 2, 1, Long.MAX_VALUE, 5);
        Due.is("longs", x.copy(2, 0, 2, 1, 1), 1);
        holds(x, 2, Long.MAX_VALUE, Long.MAX_VALUE);
    }

    private static void copyRefused() {
        BlownSpaces x = new BlownSpaces();
        Due.is("list 3", x.copy(3, 0, 0, 0, 0), BAD);
        Due.is("list -1", x.copy(0, 0, -1, 0, 0), BAD);
        Due.is("missing", x.copy(0, 0, 0, 0, 0), -11);
        Due.list(x, 0, 0, 1, 2, 3);
        Due.is("other missing", x.copy(0, 0, 1, 0, 0), -11);
        Due.is("missing", x.copy(1, 0, 0, 0, 0), -11);
        Due.list(x, 1, 1, 4, 5);
        Due.is("unlike ahead of places", x.copy(0, 0, 1, 0, -1), -12);
        Due.list(x, 1, 0, 4, 5);
        Due.is("n -1", x.copy(0, 0, 1, 0, -1), -13);
        Due.is("i -1", x.copy(0, -1, 1, 0, 1), -13);
        Due.is("j -1", x.copy(0, 0, 1, -1, 1), -13);
        Due.is("i's end", x.copy(0, 2, 1, 0, 2), -13);
        Due.is("j's end", x.copy(0, 0, 1, 1, 2), -13);
        Due.is("i beyond, n 0", x.copy(0, 4, 1, 0, 0), -13);
        Due.is("j beyond, n 0", x.copy(0, 0, 1, 3, 0), -13);
        Due.is("wrapping", x.copy(0, 1, 1, 1, Integer.MAX_VALUE), -13);
        Due.is("wrapping", x.copy(0, Integer.MAX_VALUE, 1, 0, Integer.MAX_VALUE), -13);
        holds(x, 0, 1, 2, 3);
        holds(x, 1, 4, 5);
    }
}
