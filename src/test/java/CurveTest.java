/** Promises 23 to 26: conics, curves. */
public final class CurveTest {
    private static final int BAD = BlownSpaces.BAD, NOT = BlownSpaces.NOT, STATE = BlownSpaces.STATE;
    private static final long VOID = BlownSpaces.VOID, GONE = BlownSpaces.GONE;

    public static void main(String[] args) {
        through();
        throughRefused();
        fits();
        judge();
        lots();
        lotsOfOneDraw();
        Due.end("CurveTest");
    }

    /** Promise 23: numbers that are known of old. */
    private static void through() {
        BlownSpaces x = new BlownSpaces();
        x.conics();
        long[] lines = {1, 2, 4, 4, 2, 1};
        for (int j = 0; j <= 5; j++) {
            Due.is("lines " + j, x.through(5 - j, j, -1), lines[j]);
        }
        Due.list(x, 0, 0, 2, 2);
        long[] conics = {6, 36, 184, 816, 3264};
        for (int many = 1; many <= 5; many++) {
            x.list(0, 0, 2 * many);
            for (int k = 0; k < 2 * many; k++) {
                x.put(0, k, 2);
            }
            Due.is("conics " + many, x.through(5 - many, 0, 0), conics[many - 1]);
        }
        Due.list(x, 1, 1, 1, 0);
        Due.is("a curve that is a line", x.through(3, 1, 1), 4);
        Due.list(x, 1, 1, 0, 1);
        Due.is("a curve that is a point", x.through(3, 1, 1), 2);
        Due.list(x, 1, 1, 3, 6);
        Due.is("a cubic, points", x.through(4, 0, 1), 12);
        Due.is("a cubic, lines", x.through(0, 4, 1), 6 * 2 + 3);
        Due.list(x, 1, 1, 99, 99);
        Due.is("the greatest", x.through(4, 0, 1), 99 + 198);
        Due.list(x, 1, 1, 0, 0);
        Due.is("the least", x.through(4, 0, 1), 0);
    }

    private static void throughRefused() {
        BlownSpaces x = new BlownSpaces();
        Due.is("a product", x.through(5, 0, -1), GONE);
        x.curved();
        Due.is("curved", x.through(5, 0, -1), GONE);
        Due.is("void ahead of gone", x.through(5, 0, 0), VOID);
        x.conics();
        Due.is("i -1", x.through(-1, 5, -1), VOID);
        Due.is("i 6", x.through(6, 0, -1), VOID);
        Due.is("j -1", x.through(5, -1, -1), VOID);
        Due.is("j 6", x.through(0, 6, -1), VOID);
        Due.is("list -2", x.through(5, 0, -2), VOID);
        Due.is("list 3", x.through(5, 0, 3), VOID);
        Due.is("missing", x.through(5, 0, 2), VOID);
        Due.is("4 together", x.through(4, 0, -1), GONE);
        Due.is("6 together", x.through(3, 3, -1), GONE);
        Due.list(x, 0, 0);
        Due.is("of none", x.through(5, 0, 0), 1);
        Due.list(x, 0, 0, 2);
        Due.is("odd", x.through(5, 0, 0), GONE);
        Due.is("odd", x.through(4, 0, 0), GONE);
        Due.list(x, 0, 0, 2, 2);
        Due.is("6 together", x.through(5, 0, 0), GONE);
        Due.list(x, 0, 0, 100, 2);
        Due.is("degree 100", x.through(4, 0, 0), GONE);
        Due.list(x, 0, 0, 2, 100);
        Due.is("class 100", x.through(4, 0, 0), GONE);
        Due.list(x, 0, 0, -1, 2);
        Due.is("degree -1", x.through(4, 0, 0), GONE);
        Due.list(x, 0, 1, 2, 4294967298L);
        Due.is("a long", x.through(4, 0, 0), GONE);
    }

    /** Promise 24. */
    private static void fits() {
        BlownSpaces x = new BlownSpaces();
        Due.is("no class", x.fits(0, 0, 0, 0), BAD);
        Due.read(x, "a");
        Due.is("no curved", x.fits(0, 0, 0, 0), STATE);
        Due.is("state ahead of bad", x.fits(0, 9, 0, 9), STATE);
        Due.is("bad ahead of state", x.fits(1, 0, 0, 0), BAD);
        x.curved();
        Due.read(x, "a^3");
        Due.is("no curve", x.fits(0, 0, 0, 0), BAD);
        x.curve(4, 1);
        x.curve(2, 2);
        Due.is("curve 2", x.fits(0, 2, 0, 0), BAD);
        Due.is("curve -1", x.fits(0, -1, 0, 0), BAD);
        Due.is("what 2", x.fits(0, 0, 0, 2), BAD);
        Due.is("what -1", x.fits(0, 0, 0, -1), BAD);
        x.tell(0, 21, 1);
        Due.is("met", x.met(0), 1 - 4);
        Due.is("by degree alone", x.fits(0, 0, -6, 0), 10);
        Due.is("first", x.fits(0, 0, -6, 1), 70);
        Due.is("of none", x.fits(0, 0, 1, 0), 0);
        Due.is("first of none", x.fits(0, 0, 1, 1), NOT);
        Due.is("all by the other curve", x.fits(0, 1, -3, 0), 90);
        Due.is("first by the other curve", x.fits(0, 1, -3, 1), 10);
        x.tell(0, 30, 1);
        Due.is("met", x.met(0), 1 - 4 - 16);
        Due.is("what it is", x.fits(0, 0, -19, 0), 2);
        Due.is("first", x.fits(0, 0, -19, 1), 26);
        Due.is("3 - 5d - 2g as -22", x.fits(0, 0, -22, 0), 2);
        Due.is("first", x.fits(0, 0, -22, 1), 35);
        Due.is("changes nothing", x.met(0), -19);
        Due.is("changes nothing", x.space(3), 4 + 0 - 2);
        x.tell(0, 300, 1);
        x.tell(0, 201, 1);
        Due.is("met", x.met(0), -19 - 10 - 2);
        Due.is("with the other curve", x.fits(0, 0, -31, 1), 26);
    }

    /** Promise 25. */
    private static void judge() {
        BlownSpaces x = new BlownSpaces();
        Due.is("list 3", x.judge(3), BAD);
        Due.is("list -1", x.judge(-1), BAD);
        Due.is("missing", x.judge(0), -11);
        Due.list(x, 0, 0);
        Due.is("no classes", x.judge(0), -2);
        Due.read(x, "a^2");
        Due.read(x, "2a^2");
        Due.read(x, "-3a^2");
        Due.is("none looked at", x.judge(0), 100);
        Due.list(x, 0, 0, 1, 2);
        Due.is("ends ahead", x.judge(0), 102);
        Due.list(x, 0, 1, 1, 2, -3);
        Due.is("none otherwise", x.judge(0), -2);
        Due.list(x, 0, 1, 1, 2, -3, 99);
        Due.is("longer", x.judge(0), -2);
        Due.list(x, 0, 1, 1, 3, 4);
        Due.is("the first", x.judge(0), 1);
        Due.list(x, 0, 1, 2);
        Due.is("otherwise ahead of its end", x.judge(0), 0);
        x.tell(0, 2, 4294967297L);
        Due.list(x, 0, 0, 1, 2, -3);
        Due.is("as longs", x.judge(0), 0);
        x.set(2, 0, 1);
        Due.list(x, 0, 1, 4294967297L, 2, 3);
        Due.is("by numbers", x.judge(0), -2);
    }

    /** Draws once more, as the document tells it, over what is met. */
    private static void lotsAre(BlownSpaces x, int n, int z) {
        int seed = z;
        long together = 0;
        long zeros = 0;
        int size = x.space(1);
        for (int lot = 0; lot < n; lot++) {
            long[] drawn = new long[size];
            for (int k = 0; k < size; k++) {
                seed = seed * 1103515245 + 12345;
                drawn[k] = ((seed & 0x7fffffffL) / 65536L) % x.count(0);
            }
            Due.list(x, 2, 1, drawn);
            long met = x.meetsAll(2);
            together += met;
            zeros += met == 0 ? 1 : 0;
        }
        Due.is("lots " + n + " " + z, x.lots(n, z, 0), together);
        Due.is("lots " + n + " " + z, x.lots(n, z, 1), zeros);
    }

    /** Promise 26. */
    private static void lots() {
        BlownSpaces x = new BlownSpaces();
        Due.is("no classes", x.lots(1, 1, 0), GONE);
        Due.is("void ahead of gone", x.lots(51, 1, 0), VOID);
        x.product(2, 1, 0);
        x.blow();
        Due.read(x, "2a+b-p");
        Due.read(x, "a+3b+2p");
        Due.read(x, "a");
        Due.read(x, "b+1");
        Due.is("n 0", x.lots(0, 1, 0), VOID);
        Due.is("n 51", x.lots(51, 1, 0), VOID);
        Due.is("what -1", x.lots(1, 1, -1), VOID);
        Due.is("what 2", x.lots(1, 1, 2), VOID);
        lotsAre(x, 1, 0);
        lotsAre(x, 1, -1);
        lotsAre(x, 7, 12345);
        lotsAre(x, 50, Integer.MIN_VALUE);
        lotsAre(x, 50, Integer.MAX_VALUE);
        lotsAre(x, 49, -987654321);
    }

    /** By hand: z 0 becomes 12345, which is below 65536, so that CLASS 0 is drawn. */
    private static void lotsOfOneDraw() {
        BlownSpaces x = new BlownSpaces();
        x.product(1, 0, 0);
        Due.read(x, "5a");
        Due.read(x, "0");
        Due.read(x, "9a");
        Due.is("z 0", x.lots(1, 0, 0), 5);
        Due.is("z 0", x.lots(1, 0, 1), 0);
        Due.is("z 12345: -740551042 draws 21468, modulo 3 is 0", x.lots(1, 12345, 0), 5);
        Due.is("z 0 goes on", x.lots(2, 0, 0), 10);
    }
}
