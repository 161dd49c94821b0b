import java.util.ArrayList;
import java.util.Arrays;
import java.util.List;

/** Promises 23 to 26: each sentence that names a boundary case. */
public final class CurveEdgesTest {
    private static final int BAD = BlownSpaces.BAD, NOT = BlownSpaces.NOT, STATE = BlownSpaces.STATE;
    private static final int LEAST = Integer.MIN_VALUE, MOST = Integer.MAX_VALUE;
    private static final long VOID = BlownSpaces.VOID, GONE = BlownSpaces.GONE;

    public static void main(String[] args) throws ReflectiveOperationException {
        Edges.run(CurveEdgesTest.class);
    }

    private static BlownSpaces conics() {
        BlownSpaces x = new BlownSpaces();
        x.conics();
        return x;
    }

    private static BlownSpaces product(int a, int b, int c, String... classes) {
        BlownSpaces x = new BlownSpaces();
        x.product(a, b, c);
        read(x, classes);
        return x;
    }

    private static void read(BlownSpaces x, String... classes) {
        for (String text : classes) {
            int number = x.count(0);
            Due.is("read " + text, Due.read(x, text), number);
        }
    }

    // ---- promise 23

    @Says(promise = 23, value = {"CONICS by i points, j lines (0 .. 5 each), a LIST (-1: no curves).",
        "VOID: i, j, list, missing;"})
    static void p23_pointsAndLinesAre0To5Each() {
        for (int v : new int[] {-1, 6, LEAST, MOST}) {
            Twins.keepEverywhere("i " + v, x -> x.through(v, 0, -1), VOID);
            Twins.keepEverywhere("j " + v, x -> x.through(0, v, -1), VOID);
        }
        BlownSpaces x = conics();
        Due.is("i -1, together 5", x.through(-1, 6, -1), VOID);
        Due.is("j -1, together 5", x.through(6, -1, -1), VOID);
        Due.is("i 5", x.through(5, 0, -1), 1);
        Due.is("j 5", x.through(0, 5, -1), 1);
        Due.is("i wraps", x.through(MOST, LEAST, -1), VOID);
    }

    @Says(promise = 23, value = {"a LIST (-1: no curves). VOID: i, j, list, missing;",
        "of several the first as the call's words name them"})
    static void p23_onlyAListThatIsThereOrNone() {
        for (int list : new int[] {-2, 3, LEAST, MOST, 2}) {
            Twins.keepEverywhere("list " + list, x -> x.through(5, 0, list), VOID);
        }
        BlownSpaces x = conics();
        Due.is("no curves", x.through(5, 0, -1), 1);
        for (int list = 0; list <= 2; list++) {
            Due.is("missing", x.through(5, 0, list), VOID);
            Due.is("missing goes ahead of not together 5", x.through(4, 0, list), VOID);
            x.list(list, 1, 0);
            Due.is("of none", x.through(5, 0, list), 1);
            x.list(list, -1, 0);
            Due.is("missing again", x.through(5, 0, list), VOID);
        }
    }

    @Says(promise = 23, value = {"GONE: THE SPACE is not of CONICS,", "CONICS (of SORT 2 alone)"})
    static void p23_onlyOfConics() {
        Twins.keep("product", Rooms::plane, x -> x.through(5, 0, -1), GONE);
        Twins.keep("points", Rooms::points, x -> x.through(5, 0, -1), GONE);
        Twins.keep("curved", Rooms::curved, x -> x.through(5, 0, -1), GONE);
        Twins.keep("conics", Rooms::conics, x -> x.through(5, 0, -1), 1);
        Due.is("two letters and n 5 are not enough", product(4, 1, 0).through(5, 0, -1), GONE);
    }

    @Says(promise = 23, value = {"the LIST has an odd size, a number out of range, or they are not 5 together.",
        "through i points, touching j lines and curves told by a LIST (of each its degree, then its class): MET of as many a"
        + " as i, as many (2 a less v) as j,", "all together 5.", "5 are together i, j and the pairs of the LIST."})
    static void p23_theyAreTogether5() {
        long[] lines = {1, 2, 4, 4, 2, 1};
        BlownSpaces x = conics();
        for (int i = 0; i <= 5; i++) {
            for (int j = 0; j <= 5; j++) {
                Due.is("i " + i + ", j " + j, x.through(i, j, -1), i + j == 5 ? lines[j] : GONE);
            }
        }
        long[] touching = {1, 6, 36, 184, 816, 3264};
        for (int pairs = 0; pairs <= 10; pairs++) {
            long[] told = new long[2 * pairs];
            Arrays.fill(told, 2L);
            x = conics();
            Due.list(x, 0, 0, told);
            for (int i = 0; i <= 5; i++) {
                Due.is(pairs + " pairs, i " + i, x.through(i, 0, 0), i + pairs == 5 ? touching[pairs] : GONE);
            }
        }
    }

    @Says(promise = 23, value = "the LIST has an odd size")
    static void p23_anOddListIsGone() {
        for (int size = 1; size <= 19; size += 2) {
            BlownSpaces x = conics();
            Due.list(x, 0, 0, new long[size]);
            for (int i = 0; i <= 5; i++) {
                Due.is("size " + size, x.through(i, 0, 0), GONE);
            }
        }
        Twins.keep("odd", Rooms::conics, x -> x.through(4, 0, 0), GONE);
    }

    @Says(promise = 23, value = {"a number out of range", "and of each curve of degree d and class c (0 .. 99 each) ((c plus"
        + " 2 d) a less d v);"})
    static void p23_degreeAndClassAre0To99() {
        for (long v : new long[] {-1, 100, LEAST, MOST, 4294967296L, 4294967298L, Long.MIN_VALUE, Long.MAX_VALUE}) {
            BlownSpaces x = conics();
            Due.list(x, 0, 1, v, 2);
            Due.is("degree " + v, x.through(4, 0, 0), GONE);
            Due.list(x, 0, 1, 2, v);
            Due.is("class " + v, x.through(4, 0, 0), GONE);
            Due.list(x, 0, 1, 2, 2, 2, 2, 2, v);
            Due.is("class " + v + " of the last", x.through(2, 0, 0), GONE);
        }
        for (int list = 0; list <= 2; list++) {
            for (int j = 0; j <= 4; j++) {
                BlownSpaces x = conics();
                Due.list(x, list, 0, 2, 100);
                Due.is("class 100 in LIST " + list + ", j " + j, x.through(4 - j, j, list), GONE);
                Due.list(x, list, 0, -1, 2);
                Due.is("degree -1 in LIST " + list + ", j " + j, x.through(4 - j, j, list), GONE);
                Due.list(x, (list + 1) % 3, 0, 1, 0);
                Due.is("a line in another LIST, j " + j, x.through(4 - j, j, (list + 1) % 3), new long[] {2, 4, 4, 2, 1}[j]);
            }
        }
        BlownSpaces x = conics();
        Due.list(x, 0, 1, 0, 0);
        Due.is("0 and 0", x.through(4, 0, 0), 0);
        Due.list(x, 0, 1, 99, 0);
        Due.is("99 and 0", x.through(4, 0, 0), 198);
        Due.list(x, 0, 1, 0, 99);
        Due.is("0 and 99", x.through(4, 0, 0), 99);
        Due.is("0 and 99 with lines", x.through(0, 4, 0), 99 * 2);
        Due.list(x, 0, 1, 1, 0);
        Due.is("a line is touched as a line", x.through(0, 4, 0), 1);
        Due.list(x, 0, 0, 4294967298L, 2);
        Due.is("an int of it is its lowest bits", x.through(4, 0, 0), 6);
        Due.list(x, 0, 1, 99, 99, 99, 99, 99, 99, 99, 99, 99, 99);
        Due.is("five of 99 and 99", x.through(0, 0, 0), 9509900499L * (243 - 360 + 270 - 51));
    }

    @Says(promise = 23, value = "2 All that follows is asked, and changes nothing.")
    static void p23_askingChangesNothing() {
        Twins.keep("through", y -> {
            Rooms.conics(y);
            Due.list(y, 2, 0, 3, 6);
        }, y -> y.through(4, 0, 2), 12);
        Twins.keep("fits, how many", Rooms::curved, x -> x.fits(0, 0, 25L, 0), 3);
        Twins.keep("fits, the first", Rooms::curved, x -> x.fits(0, 0, 25L, 1), 12);
        Twins.keep("judge", Rooms::plane, x -> x.judge(1), 1);
        Twins.keep("lots", Rooms::plane, x -> x.lots(50, 7, 0), drawn(plane(), 50, 7, false));
        Twins.keep("lots", Rooms::plane, x -> x.lots(50, 7, 1), drawn(plane(), 50, 7, true));
    }

    private static BlownSpaces plane() {
        BlownSpaces x = new BlownSpaces();
        Rooms.plane(x);
        return x;
    }

    // ---- promise 24

    private static BlownSpaces curved(String text) {
        BlownSpaces x = new BlownSpaces();
        x.curved();
        x.curve(4, 3);
        x.curve(2, 1);
        read(x, text);
        return x;
    }

    @Says(promise = 24, value = {"BAD: class; STATE: THE SPACE is not CURVED; BAD: curve, what.",
        "of several the first as the call's words name them"})
    static void p24_classGoesAheadOfStateAndStateAheadOfCurve() {
        for (int one : new int[] {2, -1, 8, LEAST, MOST}) {
            Twins.keepEverywhere("class " + one, x -> x.fits(one, 0, 0L, 0), BAD);
            Twins.keepEverywhere("class " + one + ", and all else", x -> x.fits(one, 9, 0L, 9), BAD);
        }
        for (Twins.Way way : new Twins.Way[] {Rooms::plane, Rooms::points, Rooms::conics}) {
            Twins.keep("not curved", way, x -> x.fits(0, 0, 0L, 0), STATE);
            Twins.keep("not curved, curve and what", way, x -> x.fits(1, -1, 0L, -1), STATE);
        }
        Due.is("no classes", new BlownSpaces().fits(0, 0, 0L, 0), BAD);
        BlownSpaces x = new BlownSpaces();
        x.curved();
        Due.is("no classes, curved", x.fits(0, 0, 0L, 0), BAD);
    }

    @Says(promise = 24, value = "BAD: curve, what.")
    static void p24_onlyACurveThatIsThereAndWhat0Or1() {
        for (int v : new int[] {-1, 1, 3, LEAST, MOST}) {
            Twins.keep("curve " + v, Rooms::curved, x -> x.fits(0, v, 0L, 0), BAD);
        }
        for (int v : new int[] {-1, 2, LEAST, MOST}) {
            Twins.keep("what " + v, Rooms::curved, x -> x.fits(0, 0, 0L, v), BAD);
        }
        BlownSpaces x = new BlownSpaces();
        x.curved();
        read(x, "a");
        for (int curves = 0; curves <= 3; curves++) {
            for (int curve = 0; curve <= 3; curve++) {
                Due.is(curves + " curves, " + curve, x.fits(0, curve, 0L, 0), curve < curves ? 90 : BAD);
            }
            x.curve(1, 1);
        }
    }

    @Says(promise = 24, value = {"FITTING: how many (what 0), the first (1; NOT).",
        "FITTING of a CLASS, a CURVE and a number x: DEGREES and GENERA by which, were they that CURVE's, the CLASS would be"
        + " MET as x: how many; the first (by DEGREE, then by GENUS): 10 times DEGREE, plus GENUS; NOT."})
    static void p24_fitsFromTheLeastToTheGreatest() {
        BlownSpaces x = curved("u^3");
        Due.is("above the greatest", x.fits(0, 0, -1L, 0), 0);
        Due.is("above the greatest", x.fits(0, 0, 0L, 1), NOT);
        Due.is("degree 1, genus 0", x.fits(0, 0, -2L, 0), 1);
        Due.is("degree 1, genus 0", x.fits(0, 0, -2L, 1), 10);
        Due.is("degree 9, genus 9", x.fits(0, 0, -52L, 0), 1);
        Due.is("degree 9, genus 9", x.fits(0, 0, -52L, 1), 99);
        Due.is("below the least", x.fits(0, 0, -54L, 0), 0);
        Due.is("below the least", x.fits(0, 0, -54L, 1), NOT);
        Due.is("an odd one", x.fits(0, 0, -11L, 0), 0);
        Due.is("an odd one", x.fits(0, 0, -11L, 1), NOT);
        Due.is("three of one number", x.fits(0, 0, -10L, 0), 3);
        Due.is("the least degree is the first", x.fits(0, 0, -10L, 1), 14);
        Due.is("by the degree alone", curved("au^2").fits(0, 0, -9L, 0), 10);
        Due.is("by the degree alone", curved("au^2").fits(0, 0, -9L, 1), 90);
        Due.is("degree 10 is none", curved("au^2").fits(0, 0, -10L, 1), NOT);
        Due.is("degree 0 is none", curved("au^2").fits(0, 0, 0L, 1), NOT);
        Due.is("by the genus alone", curved("u^3-4au^2").fits(0, 0, 2L, 0), 9);
        Due.is("by the genus alone", curved("u^3-4au^2").fits(0, 0, -16L, 1), 19);
        Due.is("genus 10 is none", curved("u^3-4au^2").fits(0, 0, -18L, 1), NOT);
        Due.is("genus -1 is none", curved("u^3-4au^2").fits(0, 0, 4L, 1), NOT);
    }

    @Says(promise = 24, value = "were they that CURVE's, the CLASS would be MET as x")
    static void p24_theOtherCurvesStayAsTheyAre() {
        BlownSpaces x = curved("7a^3+au^2+u^3+3av^2+2v^3");
        long others = 7 + 3 * -2 + 2 * (2 - 2 - 8);
        Due.is("what it is", x.met(0), others - 4 + 2 - 6 - 16);
        Due.is("5d and 2g are 26 together: its own and one more", x.fits(0, 0, others - 24L, 0), 2);
        Due.is("5d and 2g are 26 together", x.fits(0, 0, others - 24L, 1), 28);
        Due.is("one number", x.fits(0, 0, others - 3L, 0), 1);
        Due.is("one number", x.fits(0, 0, others - 3L, 1), 10);
        long withoutV = 7 - 4 + 2 - 6 - 16;
        Due.is("the other curve", x.fits(0, 1, withoutV - 3 + 4 - 8L, 1), 10);
        Due.is("changes nothing", x.met(0), others - 24L);
        Due.is("changes nothing", x.worth(21), -4);
        Due.is("all or none without the curve's letter", curved("5a^3+u").fits(0, 0, 5L, 0), 90);
        Due.is("the first of all", curved("5a^3+u").fits(0, 0, 5L, 1), 10);
        Due.is("all or none without the curve's letter", curved("5a^3+u").fits(0, 0, 4L, 0), 0);
        Due.is("none", curved("5a^3+u").fits(0, 0, 4L, 1), NOT);
    }

    @Says(promise = 24, value = {"All numbers are longs that wrap.", "goes by NUMBERS, not by what is TOLD"})
    static void p24_wrapsAndGoesByNumbers() {
        BlownSpaces x = curved("0");
        x.tell(0, 21, 1L << 62);
        Due.is("degrees 1, 5, 9", x.fits(0, 0, -(1L << 62), 0), 30);
        Due.is("degrees 1, 5, 9", x.fits(0, 0, -(1L << 62), 1), 10);
        Due.is("degrees 4, 8", x.fits(0, 0, 0L, 0), 20);
        Due.is("degrees 4, 8", x.fits(0, 0, 0L, 1), 40);
        Due.is("degrees 2, 6", x.fits(0, 0, Long.MIN_VALUE, 1), 20);
        x.tell(0, 3, 1L);
        Due.is("the least long and 1", x.fits(0, 0, Long.MIN_VALUE + 1, 1), 20);
        x.tell(0, 3, Long.MAX_VALUE);
        x.tell(0, 21, -1L);
        Due.is("the greatest and 1", x.fits(0, 0, Long.MIN_VALUE, 1), 10);
        x = curved("au^2");
        x.set(0, 0, 1);
        Due.is("by numbers", x.fits(0, 0, 9L, 1), 90);
        x.set(0, 0, 4);
        Due.is("pulled to nothing", x.fits(0, 0, 0L, 0), 90);
    }

    // ---- promise 25

    @Says(promise = 25, value = {"JUDGED by a LIST. BAD; -11.", "-11 it is missing"})
    static void p25_onlyAListThatIsThere() {
        for (int list : new int[] {-1, 3, LEAST, MOST}) {
            Twins.keepEverywhere("list " + list, x -> x.judge(list), BAD);
        }
        Twins.keepEverywhere("missing", x -> x.judge(2), -11);
        BlownSpaces x = new BlownSpaces();
        for (int list = 0; list <= 2; list++) {
            Due.is("missing", x.judge(list), -11);
            x.list(list, 0, 0);
            Due.is("there", x.judge(list), -2);
            x.list(list, -1, 0);
            Due.is("missing again", x.judge(list), -11);
        }
    }

    @Says(promise = 25, value = "JUDGED: a LIST tells MET of CLASSES 0, 1, ..: the first that is otherwise; -2: none; 100 and"
        + " how many were looked at, if it ends ahead of the last CLASS.")
    static void p25_endsAheadOfTheLastClassOrNot() {
        BlownSpaces x = product(2, 0, 0, "a^2", "2a^2", "3a^2", "4a^2", "5a^2", "6a^2", "7a^2", "8a^2");
        for (int size = 0; size <= 20; size++) {
            x.list(0, 0, size);
            for (int k = 0; k < size; k++) {
                x.put(0, k, k + 1);
            }
            Due.is("size " + size, x.judge(0), size < 8 ? 100 + size : -2);
        }
        x.drop();
        Due.list(x, 0, 0, 1, 2, 3, 4, 5, 6, 7);
        Due.is("as many as there are", x.judge(0), -2);
        Due.list(x, 0, 0, 1, 2, 3, 4, 5, 6);
        Due.is("one less", x.judge(0), 106);
        x.product(1, 0, 0);
        Due.is("no classes", x.judge(0), -2);
        Due.list(x, 0, 0);
        Due.is("no classes, an empty list", x.judge(0), -2);
        read(x, "a");
        Due.is("a class, an empty list", x.judge(0), 100);
    }

    @Says(promise = 25, value = "the first that is otherwise;")
    static void p25_theFirstThatIsOtherwise() {
        for (int wrong = 0; wrong < 8; wrong++) {
            BlownSpaces x = product(2, 0, 0, "a^2", "2a^2", "3a^2", "4a^2", "5a^2", "6a^2", "7a^2", "8a^2");
            Due.list(x, 0, 1, 1, 2, 3, 4, 5, 6, 7, 8);
            x.put(0, wrong, 9);
            Due.is("otherwise at " + wrong, x.judge(0), wrong);
            x.put(0, 7, -1);
            Due.is("and at the last", x.judge(0), wrong);
            x.list(1, 1, wrong);
            x.copy(0, 0, 1, 0, wrong);
            Due.is("the list ends ahead of it", x.judge(1), 100 + wrong);
        }
    }

    @Says(promise = 25, value = {"a LIST tells MET of CLASSES 0, 1, ..", "goes by NUMBERS, not by what is TOLD"})
    static void p25_metIsALongByNumbers() {
        BlownSpaces x = product(2, 0, 0, "0");
        x.tell(0, 2, 4294967296L);
        Due.list(x, 0, 0, 0);
        Due.is("an int is not enough", x.judge(0), 0);
        Due.list(x, 0, 1, 4294967296L);
        Due.is("a long is", x.judge(0), -2);
        x.set(0, 0, 1);
        Due.is("by numbers", x.judge(0), 0);
        Due.list(x, 0, 1, -4294967296L);
        Due.is("by numbers", x.judge(0), -2);
    }

    // ---- promise 26

    @Says(promise = 26, value = {"LOTS: all together (what 0), how many 0 (1). VOID: n, what; GONE: there are no CLASSES.",
        "n times (1 .. 50)", "of several the first as the call's words name them"})
    static void p26_nIs1To50AndWhat0Or1() {
        for (int n : new int[] {0, -1, 51, LEAST, MOST}) {
            Twins.keepEverywhere("n " + n, x -> x.lots(n, 1, 0), VOID);
            Due.is("void goes ahead of gone", new BlownSpaces().lots(n, 1, 0), VOID);
        }
        for (int what : new int[] {-1, 2, LEAST, MOST}) {
            Twins.keepEverywhere("what " + what, x -> x.lots(1, 1, what), VOID);
            Due.is("void goes ahead of gone", new BlownSpaces().lots(1, 1, what), VOID);
        }
        BlownSpaces x = product(2, 0, 0, "3a");
        Due.is("n 1", x.lots(1, 1, 0), 9);
        Due.is("n 50", x.lots(50, 1, 0), 450);
        Due.is("n 1", x.lots(1, 1, 1), 0);
        x.set(0, 0, 3);
        Due.is("n 50, all 0", x.lots(50, 1, 0), 0);
        Due.is("n 50, all 0", x.lots(50, 1, 1), 50);
    }

    @Says(promise = 26, value = "GONE: there are no CLASSES.")
    static void p26_withoutClassesItIsGone() {
        BlownSpaces x = new BlownSpaces();
        Due.is("none", x.lots(1, 1, 0), GONE);
        Due.is("none", x.lots(50, 1, 1), GONE);
        Twins.keep("none any more", y -> {
            Rooms.plane(y);
            y.drop();
            y.drop();
        }, y -> y.lots(1, 1, 0), GONE);
        read(x, "a");
        Due.is("one", x.lots(1, 1, 0), 1);
    }

    /** What is drawn, by longs and MET of LISTS. */
    private static long drawn(BlownSpaces x, int n, int z, boolean zeros) {
        long seed = z;
        long together = 0;
        long many = 0;
        for (int lot = 0; lot < n; lot++) {
            List<Long> ones = new ArrayList<>();
            for (int k = 0; k < x.space(1); k++) {
                seed = (int) (seed * 1103515245L + 12345L);
                ones.add(Math.floorMod(seed, 2147483648L) / 65536L % x.count(0));
            }
            Due.list(x, 2, 1, ones.stream().mapToLong(one -> one).toArray());
            long met = x.meetsAll(2);
            together += met;
            many += met == 0 ? 1 : 0;
        }
        return zeros ? many : together;
    }

    @Says(promise = 26, value = {"LOTS with a seed z: n times (1 .. 50): as many CLASSES as the DIMENSION, each by a DRAW below"
        + " how many there are, are MET: all of these, together; how many are 0.", "A DRAW below m: z becomes z times"
        + " 1103515245 plus 12345 (an int, wrapping); (z without its sign's bit, over 65536, cut) modulo m.",
        "LOTS go on with z."})
    static void p26_drawsOfAnySeed() {
        BlownSpaces x = product(2, 1, 0, "a+b", "2a-b", "3a+5b", "a^2", "b", "7", "0", "a-9b");
        for (int left = 8; left >= 1; left--) {
            for (int z : new int[] {0, 1, -1, LEAST, MOST, 65535, -65536, 12345}) {
                Due.is(left + " classes, z " + z, x.lots(1, z, 0), drawn(x, 1, z, false));
                Due.is(left + " classes, z " + z, x.lots(3, z, 0), drawn(x, 3, z, false));
                Due.is(left + " classes, z " + z, x.lots(3, z, 1), drawn(x, 3, z, true));
            }
            Due.is(left + " classes, n 50", x.lots(50, left, 0), drawn(x, 50, left, false));
            Due.is(left + " classes, n 50", x.lots(50, left, 1), drawn(x, 50, left, true));
            x.drop();
        }
    }

    @Says(promise = 26, value = "(z without its sign's bit, over 65536, cut) modulo m")
    static void p26_drawsByHand() {
        BlownSpaces x = product(1, 0, 0, "5a", "7a", "100a");
        Due.is("z 0: 12345, over 65536 is 0", x.lots(1, 0, 0), 5);
        Due.is("z 1: 1103527590, over 65536 is 16838, modulo 3 is 2", x.lots(1, 1, 0), 100);
        Due.is("z -1: -1103502900, without its sign 1043980748, 15929, modulo 3 is 2", x.lots(1, -1, 0), 100);
        Due.is("z 5: 1222621274 is 18655, modulo 3 is 1", x.lots(1, 5, 0), 7);
        Due.is("z 7: -865315532, without its sign 1282168116, 19564, modulo 3 is 1", x.lots(1, 7, 0), 7);
        Due.is("z 0 twice: 12345, then -740551042, without its sign 1406932606, 21468, modulo 3 is 0", x.lots(2, 0, 0), 10);
    }

    @Says(promise = 26, value = {"All numbers are longs that wrap.", "goes by NUMBERS, not by what is TOLD"})
    static void p26_wrapsAndGoesByNumbers() {
        BlownSpaces x = product(1, 0, 0, "0");
        x.tell(0, 1, Long.MAX_VALUE);
        Due.is("twice the greatest", x.lots(2, 5, 0), -2);
        Due.is("50 times the greatest", x.lots(50, 5, 0), -50);
        x.set(0, 0, 1);
        Due.is("by numbers", x.lots(2, 5, 0), 2);
        x.set(0, 0, 2);
        x.set(0, 1, 1);
        x.tell(0, 1, Long.MIN_VALUE);
        Due.is("twice the least is 0", x.lots(7, 5, 1), 7);
    }
}
