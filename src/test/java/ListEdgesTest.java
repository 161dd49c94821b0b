/** Promises 33 to 36: each sentence that names a boundary case. */
public final class ListEdgesTest {
    private static final int BAD = BlownSpaces.BAD;
    private static final int LEAST = Integer.MIN_VALUE, MOST = Integer.MAX_VALUE;
    private static final int MISSING = -11, OTHER_SORT = -12, OUTSIDE = -13, BELOW = -14;
    private static final long VOID = BlownSpaces.VOID;
    private static final int[] NO_LISTS = {-1, 3, LEAST, MOST};

    public static void main(String[] args) throws ReflectiveOperationException {
        Edges.run(ListEdgesTest.class);
    }

    /** LIST 0 holds ints 1 .. 5, LIST 1 longs 11 .. 13, LIST 2 is missing. */
    private static void lists(BlownSpaces x) {
        Due.list(x, 0, 0, 1, 2, 3, 4, 5);
        Due.list(x, 1, 1, 11, 12, 13);
    }

    private static void holds(BlownSpaces x, int list, long... want) {
        for (int k = 0; k < want.length; k++) {
            Due.is("place " + k + " of " + list, x.get(list, k), want[k]);
        }
        Due.is("behind the last place of " + list, x.get(list, want.length), VOID);
        Due.is("ahead of the first place of " + list, x.get(list, -1), VOID);
    }

    // ---- promise 33

    @Says(promise = 33, value = {"A LIST holds n numbers (0 .. 20) of a sort, all 0, or is missing (sort -1: n does not matter):"
        + " 1. BAD: list, sort, n above 20; -14.", "LISTS 0 .. 2 are missing (at first), or hold 0 .. 20 numbers of a sort: 0"
        + " ints, 1 longs: -11 it is missing, -12 another sort, -13 a place outside, -14 a size below 0."})
    static void p33_listIs0To2() {
        for (int list : NO_LISTS) {
            Twins.keepEverywhere("list " + list, x -> x.list(list, 0, 1), BAD);
            Twins.keepEverywhere("list " + list + ", missing", x -> x.list(list, -1, 1), BAD);
            Twins.keepEverywhere("list " + list + ", size below 0", x -> x.list(list, 0, -1), BAD);
        }
        BlownSpaces x = new BlownSpaces();
        for (int list = 0; list <= 2; list++) {
            Due.is("list " + list, x.list(list, 1, list + 1), 1);
            Due.is("there are", x.count(5), list + 1);
        }
        holds(x, 0, 0);
        holds(x, 1, 0, 0);
        holds(x, 2, 0, 0, 0);
    }

    @Says(promise = 33, value = "BAD: list, sort, n above 20; -14.")
    static void p33_sortIsMinus1To1() {
        for (int sort : new int[] {-2, 2, LEAST, MOST}) {
            Twins.keepEverywhere("sort " + sort, x -> x.list(0, sort, 1), BAD);
            Twins.keepEverywhere("sort " + sort + ", size below 0", x -> x.list(0, sort, -1), BAD);
        }
        BlownSpaces x = new BlownSpaces();
        Due.is("ints", x.list(0, 0, 1), 1);
        x.put(0, 0, 4294967297L);
        Due.is("an int", x.get(0, 0), 1);
        Due.is("longs", x.list(0, 1, 1), 1);
        x.put(0, 0, 4294967297L);
        Due.is("a long", x.get(0, 0), 4294967297L);
        Due.is("missing", x.list(0, -1, 1), 1);
        Due.is("missing", x.put(0, 0, 1), MISSING);
    }

    @Says(promise = 33, value = {"A LIST holds n numbers (0 .. 20) of a sort, all 0", "n above 20; -14.",
        "-14 a size below 0"})
    static void p33_sizeIs0To20() {
        for (int sort = 0; sort <= 1; sort++) {
            int asked = sort;
            for (int n : new int[] {21, 22, MOST}) {
                Twins.keepEverywhere("size " + n, x -> x.list(0, asked, n), BAD);
            }
            for (int n : new int[] {-1, -2, LEAST}) {
                Twins.keepEverywhere("size " + n, x -> x.list(0, asked, n), BELOW);
            }
            BlownSpaces x = new BlownSpaces();
            for (int n : new int[] {0, 1, 19, 20}) {
                Due.is("size " + n, x.list(1, sort, n), 1);
                holds(x, 1, new long[n]);
                Due.is("it is there", x.count(5), 1);
            }
        }
    }

    @Says(promise = 33, value = "or is missing (sort -1: n does not matter): 1.")
    static void p33_ofAMissingOneTheSizeDoesNotMatter() {
        for (int n : new int[] {0, 20, 21, -1, LEAST, MOST}) {
            BlownSpaces x = new BlownSpaces();
            lists(x);
            Due.is("missing", x.list(0, -1, n), 1);
            Due.is("there is one", x.count(5), 1);
            Due.is("no place", x.get(0, 0), VOID);
            Due.is("missing already", x.list(0, -1, n), 1);
            Due.is("missing at first", x.list(2, -1, n), 1);
            Due.is("there is one", x.count(5), 1);
            holds(x, 1, 11, 12, 13);
        }
    }

    @Says(promise = 33, value = "A LIST holds n numbers (0 .. 20) of a sort, all 0")
    static void p33_allOfItAre0AlsoWhereThereWasOne() {
        BlownSpaces x = new BlownSpaces();
        lists(x);
        Due.is("as it was", x.list(0, 0, 5), 1);
        holds(x, 0, 0, 0, 0, 0, 0);
        Due.is("shorter", x.list(1, 1, 1), 1);
        holds(x, 1, 0);
        Due.is("longer", x.list(1, 1, 3), 1);
        holds(x, 1, 0, 0, 0);
        x.put(1, 2, 5);
        x.list(1, -1, 0);
        Due.is("there again", x.list(1, 1, 3), 1);
        holds(x, 1, 0, 0, 0);
        x.put(1, 2, 5);
        Due.is("of another sort", x.list(1, 0, 3), 1);
        holds(x, 1, 0, 0, 0);
    }

    // ---- promise 34

    @Says(promise = 34, value = {"Place i of a LIST becomes v (its lowest bits, as many as it has): 1. BAD; -11; -13.",
        "of several the first as the call's words name them"})
    static void p34_listThenMissingThenPlace() {
        for (int list : NO_LISTS) {
            Twins.keepEverywhere("list " + list, x -> x.put(list, 0, 7L), BAD);
            Twins.keepEverywhere("list " + list + ", place outside", x -> x.put(list, -1, 7L), BAD);
        }
        Twins.keepEverywhere("missing", x -> x.put(2, 0, 7L), MISSING);
        Twins.keepEverywhere("missing, place outside", x -> x.put(2, -1, 7L), MISSING);
        for (int i : new int[] {-1, 3, 20, LEAST, MOST}) {
            Twins.keepEverywhere("place " + i, x -> x.put(0, i, 7L), OUTSIDE);
        }
        BlownSpaces x = new BlownSpaces();
        for (int n = 0; n <= 20; n += 5) {
            x.list(0, 0, n);
            Due.is("the last place", x.put(0, n - 1, 7), n == 0 ? OUTSIDE : 1);
            Due.is("behind it", x.put(0, n, 7), OUTSIDE);
            Due.is("the first place", x.put(0, 0, 8), n == 0 ? OUTSIDE : 1);
            Due.is("ahead of it", x.put(0, -1, 7), OUTSIDE);
        }
        Due.is("the first", x.get(0, 0), 8);
        Due.is("between", x.get(0, 1), 0);
        Due.is("the last", x.get(0, 19), 7);
    }

    @Says(promise = 34, value = "(its lowest bits, as many as it has)")
    static void p34_itsLowestBits() {
        long[] values = {0, 1, -1, MOST, LEAST, MOST + 1L, LEAST - 1L, 4294967295L, 4294967296L, 4294967297L, -4294967297L,
            Long.MAX_VALUE, Long.MIN_VALUE, Long.MIN_VALUE + 1};
        long[] ints = {0, 1, -1, MOST, LEAST, LEAST, MOST, -1, 0, 1, -1, -1, 0, 1};
        BlownSpaces x = new BlownSpaces();
        Due.list(x, 0, 0, values);
        Due.list(x, 1, 1, values);
        holds(x, 0, ints);
        for (int k = 0; k < values.length; k++) {
            Due.is("a long", x.get(1, k), values[k]);
        }
    }

    // ---- promise 35

    @Says(promise = 35, value = {"Place i of a LIST. VOID: no such LIST, missing, no such place.", "VOID: the least long."})
    static void p35_onlyAPlaceThatIsThere() {
        for (int list : NO_LISTS) {
            Twins.keepEverywhere("list " + list, x -> x.get(list, 0), VOID);
        }
        Twins.keepEverywhere("missing", x -> x.get(2, 0), VOID);
        for (int i : new int[] {-1, 3, 20, LEAST, MOST}) {
            Twins.keepEverywhere("place " + i, x -> x.get(0, i), VOID);
        }
        BlownSpaces x = new BlownSpaces();
        Due.is("missing at first", x.get(0, 0), VOID);
        x.list(0, 0, 0);
        Due.is("no places", x.get(0, 0), VOID);
        x.list(0, 0, 1);
        Due.is("one place", x.get(0, 0), 0);
        Due.is("one place", x.get(0, 1), VOID);
        x.list(0, 0, 20);
        Due.is("twenty", x.get(0, 19), 0);
        Due.is("twenty", x.get(0, 20), VOID);
        Due.is("void is the least long", VOID, Long.MIN_VALUE);
    }

    // ---- promise 36

    private static void refused(String what, Twins.Call call, int want) {
        Twins.keep(what, x -> {
            Rooms.plane(x);
            lists(x);
        }, call, want);
    }

    @Says(promise = 36, value = {"BAD: lists; -11: either is missing; -12: of unlike sorts; -13: n, i, j below 0, or beyond"
        + " either's end.", "of several the first as the call's words name them"})
    static void p36_listsThenMissingThenSortsThenPlaces() {
        for (int list : NO_LISTS) {
            refused("list " + list, x -> x.copy(list, 0, 0, 0, 1), BAD);
            refused("other " + list, x -> x.copy(0, 0, list, 0, 1), BAD);
            refused("list " + list + ", other missing", x -> x.copy(list, 0, 2, 0, 1), BAD);
            refused("missing, other " + list, x -> x.copy(2, 0, list, 0, 1), BAD);
        }
        refused("missing", x -> x.copy(2, 0, 0, 0, 1), MISSING);
        refused("other missing", x -> x.copy(0, 0, 2, 0, 1), MISSING);
        refused("both missing, places outside", x -> x.copy(2, -1, 2, -1, -1), MISSING);
        refused("unlike sorts", x -> x.copy(0, 0, 1, 0, 1), OTHER_SORT);
        refused("unlike sorts", x -> x.copy(1, 0, 0, 0, 1), OTHER_SORT);
        refused("unlike sorts of no numbers", x -> x.copy(0, 0, 1, 0, 0), OTHER_SORT);
        refused("unlike sorts, places outside", x -> x.copy(0, -1, 1, 99, -1), OTHER_SORT);
        BlownSpaces x = new BlownSpaces();
        lists(x);
        Due.list(x, 2, 1, 21, 22);
        Due.is("like sorts", x.copy(2, 0, 1, 0, 2), 2);
        holds(x, 1, 21, 22, 13);
    }

    @Says(promise = 36, value = "-13: n, i, j below 0, or beyond either's end.")
    static void p36_placesWithinBothEnds() {
        for (int n = -1; n <= 4; n++) {
            for (int i = -1; i <= 6; i++) {
                for (int j = -1; j <= 4; j++) {
                    BlownSpaces x = new BlownSpaces();
                    Due.list(x, 0, 0, 1, 2, 3, 4, 5);
                    Due.list(x, 1, 0, 11, 12, 13);
                    boolean within = n >= 0 && i >= 0 && j >= 0 && i + n <= 5 && j + n <= 3;
                    Due.is("copy " + n + " from " + i + " to " + j, x.copy(0, i, 1, j, n), within ? n : OUTSIDE);
                    for (int k = 0; k < 3; k++) {
                        Due.is("place " + k, x.get(1, k), within && k >= j && k < j + n ? i + k - j + 1 : 11 + k);
                    }
                    holds(x, 0, 1, 2, 3, 4, 5);
                    holds(x, 1, x.get(1, 0), x.get(1, 1), x.get(1, 2));
                }
            }
        }
    }

    @Says(promise = 36, value = "-13: n, i, j below 0, or beyond either's end.")
    static void p36_placesThatWrap() {
        for (int v : new int[] {LEAST, MOST, MOST - 1, LEAST + 1, 6}) {
            refused("n " + v, x -> x.copy(0, 0, 0, 0, v), OUTSIDE);
            refused("n " + v + " from 1", x -> x.copy(0, 1, 0, 1, v), OUTSIDE);
            refused("i " + v, x -> x.copy(0, v, 0, 0, 0), OUTSIDE);
            refused("i " + v, x -> x.copy(0, v, 0, 0, 1), OUTSIDE);
            refused("j " + v, x -> x.copy(0, 0, 0, v, 0), OUTSIDE);
            refused("j " + v, x -> x.copy(0, 0, 0, v, 1), OUTSIDE);
            refused("i and n " + v, x -> x.copy(0, v, 0, 0, v), OUTSIDE);
            refused("j and n " + v, x -> x.copy(0, 0, 0, v, v), OUTSIDE);
        }
    }

    @Says(promise = 36, value = "n places of a LIST, from i on, come to another one's (or its own) place j on, as they were: n.")
    static void p36_ofItsOwnAsTheyWere() {
        for (int i = 0; i <= 5; i++) {
            for (int j = 0; j <= 5; j++) {
                for (int n = 0; i + n <= 5 && j + n <= 5; n++) {
                    BlownSpaces x = new BlownSpaces();
                    Due.list(x, 0, 0, 1, 2, 3, 4, 5);
                    Due.is("copy", x.copy(0, i, 0, j, n), n);
                    for (int k = 0; k < 5; k++) {
                        Due.is("place " + k, x.get(0, k), k >= j && k < j + n ? i + k - j + 1 : k + 1);
                    }
                }
            }
        }
    }

    @Says(promise = 36, value = {"n places of a LIST, from i on, come to another one's (or its own) place j on, as they were: n.",
        "hold 0 .. 20 numbers"})
    static void p36_noneAndAllTwenty() {
        BlownSpaces x = new BlownSpaces();
        x.list(0, 1, 0);
        x.list(1, 1, 0);
        Due.is("none of none", x.copy(0, 0, 1, 0, 0), 0);
        Due.is("none of none of its own", x.copy(0, 0, 0, 0, 0), 0);
        Due.is("one of none", x.copy(0, 0, 1, 0, 1), OUTSIDE);
        x.list(0, 1, 20);
        x.list(1, 1, 20);
        for (int k = 0; k < 20; k++) {
            x.put(0, k, Long.MAX_VALUE - k);
        }
        Due.is("twenty", x.copy(0, 0, 1, 0, 20), 20);
        for (int k = 0; k < 20; k++) {
            Due.is("place " + k, x.get(1, k), Long.MAX_VALUE - k);
        }
        Due.is("21", x.copy(0, 0, 1, 0, 21), OUTSIDE);
        Due.is("none behind the last", x.copy(0, 20, 1, 20, 0), 0);
        Due.is("none beyond", x.copy(0, 21, 1, 20, 0), OUTSIDE);
        Due.is("none beyond", x.copy(0, 20, 1, 21, 0), OUTSIDE);
    }
}
