/** Promises 37 to 45: acts of classes, changes, the image. */
public final class ActTest {
    private static final int BAD = BlownSpaces.BAD, NOT = BlownSpaces.NOT, STATE = BlownSpaces.STATE;

    public static void main(String[] args) {
        act();
        actWraps();
        taken();
        changes();
        eldestChange();
        eldestOfManyClasses();
        whatEndsChanges();
        image();
        imageOfSpaces();
        count();
        Due.end("ActTest");
    }

    private static void actIs(BlownSpaces x, int act, int v, int want, int... bodies) {
        Due.is("act " + act + " of kind " + x.of(2, 0), x.act(2, act, v), want);
        for (int k = 0; k < bodies.length; k++) {
            Due.is("trace(" + k + ") of act " + act + " kind " + x.of(2, 0), x.trace(k), bodies[k]);
        }
        Due.is("trace behind", x.trace(bodies.length), NOT);
    }

    /** Promises 37 and 38, by each KIND: number 2, FIGURE 6. */
    private static void act() {
        BlownSpaces x = new BlownSpaces();
        Due.is("no class", x.act(0, 0, 1), 0);
        Due.is("no trace", x.trace(0), NOT);
        Due.read(x, "a");
        Due.read(x, "a");
        Due.read(x, "a");
        x.set(2, 1, 6);
        actIs(x, 0, 5, 7, 10);
        actIs(x, 1, 5, 14, 11, 10);
        actIs(x, 2, 5, 8, 12, 11, 10);
        x.set(2, 0, 1);
        actIs(x, 0, 5, 7, 10);
        actIs(x, 1, 5, 14 ^ 3, 20, 11, 10);
        actIs(x, 2, 5, (14 ^ 3) - 6, 12, 20, 11, 10);
        x.set(2, 0, 2);
        actIs(x, 0, 5, -7, 30, 10);
        actIs(x, 1, 5, -14, 11, 30, 10);
        actIs(x, 2, 5, -20, 12, 11, 30, 10);
        x.set(2, 0, 3);
        actIs(x, 0, 5, 7, 10);
        actIs(x, 1, 5, 14 + 4, 50, 11, 10, 10);
        actIs(x, 2, 5, 18 - 6, 12, 50, 11, 10, 10);
        x.set(2, 0, 4);
        actIs(x, 0, 5, -21, 41, 30, 10);
        actIs(x, 1, 5, -42, 11, 41, 30, 10);
        actIs(x, 2, 5, -48 - 6, 40, 12, 11, 41, 30, 10);
        x.set(2, 0, 5);
        actIs(x, 0, 5, 7, 10);
        actIs(x, 1, 5, 14 ^ 3, 20, 11, 10);
        actIs(x, 2, 5, ((14 ^ 3) - 6) ^ 6, 60, 12, 20, 11, 10);
        Due.is("no class", x.act(3, 0, 1), 0);
        Due.is("no class", x.act(-1, 0, 1), 0);
        Due.is("act 3", x.act(2, 3, 1), 0);
        Due.is("act -1", x.act(2, -1, 1), 0);
        Due.is("trace stays", x.trace(0), 60);
        Due.is("trace -1", x.trace(-1), NOT);
        Due.is("trace 24", x.trace(24), NOT);
        Due.is("far", x.trace(Integer.MAX_VALUE), NOT);
        x.conics();
        Due.is("trace stays", x.trace(4), 10);
    }

    private static void actWraps() {
        BlownSpaces x = new BlownSpaces();
        Due.read(x, "a");
        Due.read(x, "a");
        Due.is("meets", x.act(1, 0, Integer.MAX_VALUE), Integer.MIN_VALUE);
        Due.is("turns", x.act(1, 1, 0x40000000), 0x80000002);
        x.set(1, 0, 4);
        Due.is("pulled tells", x.act(1, 2, Integer.MAX_VALUE), -(Integer.MIN_VALUE + 1) * 3 * 2);
    }

    private static void takenIs(BlownSpaces x, int kind, int... want) {
        x.set(1, 0, kind);
        for (int k = 0; k <= 5; k++) {
            Due.is("kind " + kind + " taken for " + k, x.taken(1, k), want[k]);
        }
    }

    /** Promise 39. */
    private static void taken() {
        BlownSpaces x = new BlownSpaces();
        Due.is("no class", x.taken(0, 0), BAD);
        Due.read(x, "a");
        Due.read(x, "a");
        x.set(1, 1, 7);
        takenIs(x, 0, 1, STATE, STATE, STATE, STATE, STATE);
        takenIs(x, 1, 1, 1, STATE, STATE, STATE, STATE);
        takenIs(x, 2, 1, STATE, 7, STATE, STATE, STATE);
        takenIs(x, 3, 1, STATE, STATE, 7, STATE, STATE);
        takenIs(x, 4, 1, STATE, 7, STATE, 7, STATE);
        takenIs(x, 5, 1, 1, STATE, STATE, STATE, 1);
        Due.is("kind -1", x.taken(1, -1), BAD);
        Due.is("kind 6", x.taken(1, 6), BAD);
        Due.is("class 2", x.taken(2, 0), BAD);
        Due.is("class -1", x.taken(-1, 0), BAD);
    }

    private static void changesAre(BlownSpaces x, int done, int undone) {
        Due.is("can be undone", x.count(1), done);
        Due.is("can be done again", x.count(2), undone);
    }

    /** Promises 40 and 41. */
    private static void changes() {
        BlownSpaces x = new BlownSpaces();
        Due.is("undo", x.undo(), STATE);
        Due.is("redo", x.redo(), STATE);
        Due.read(x, "a");
        Due.read(x, "b");
        Due.read(x, "a^2");
        x.set(0, 0, 3);
        x.set(1, 1, 4);
        x.set(0, 0, 5);
        x.set(0, 0, 5);
        changesAre(x, 3, 0);
        Due.is("undo", x.undo(), 2);
        Due.is("kind", x.of(0, 0), 3);
        Due.is("undo", x.undo(), 1);
        Due.is("figure", x.of(1, 1), 0);
        changesAre(x, 1, 2);
        Due.is("redo", x.redo(), 1);
        Due.is("figure", x.of(1, 1), 4);
        changesAre(x, 2, 1);
        x.set(1, 1, 4);
        changesAre(x, 2, 1);
        x.set(9, 1, 5);
        changesAre(x, 2, 1);
        Due.is("another one", x.set(1, 0, 2), 0);
        changesAre(x, 3, 0);
        Due.is("redo", x.redo(), STATE);
        Due.is("undo", x.undo(), 2);
        Due.is("undo", x.undo(), 1);
        Due.is("undo", x.undo(), 0);
        Due.is("undo", x.undo(), STATE);
        Due.is("kind", x.of(0, 0), 0);
        Due.is("redo", x.redo(), 2);
        Due.is("redo", x.redo(), 1);
        Due.is("redo", x.redo(), 0);
        Due.is("redo", x.redo(), STATE);
        Due.is("kind", x.of(0, 0), 3);
        Due.is("figure", x.of(1, 1), 4);
        Due.is("kind", x.of(1, 0), 2);
    }

    private static void eldestChange() {
        BlownSpaces x = new BlownSpaces();
        Due.read(x, "a");
        for (int k = 1; k <= 9; k++) {
            x.set(0, 1, k);
        }
        for (int k = 1; k <= 5; k++) {
            x.set(0, 0, k);
        }
        changesAre(x, 12, 0);
        for (int k = 11; k >= 0; k--) {
            Due.is("undo", x.undo(), k);
        }
        Due.is("undo", x.undo(), STATE);
        Due.is("kind", x.of(0, 0), 0);
        Due.is("figure", x.of(0, 1), 2);
        for (int k = 11; k >= 0; k--) {
            Due.is("redo", x.redo(), k);
        }
        Due.is("kind", x.of(0, 0), 5);
        Due.is("figure", x.of(0, 1), 9);
        x.undo();
        x.undo();
        x.set(0, 0, 0);
        changesAre(x, 11, 0);
        x.set(0, 0, 1);
        x.set(0, 0, 2);
        changesAre(x, 12, 0);
    }

    /** Each CHANGE goes back to its own CLASS, by its own value, after the eldest have gone. */
    private static void eldestOfManyClasses() {
        BlownSpaces x = new BlownSpaces();
        int[] ones = {0, 1, 2, 3, 4, 5, 6, 7, 7, 6, 5, 4, 3, 2, 1, 0};
        int[] whats = {0, 1, 0, 1, 0, 1, 0, 1, 0, 1, 0, 1, 0, 1, 0, 1};
        int[] values = {1, 9, 2, 8, 3, 7, 4, 6, 5, 5, 4, 4, 3, 3, 2, 2};
        for (int k = 0; k < 8; k++) {
            Due.read(x, "a");
        }
        for (int k = 0; k < 16; k++) {
            Due.is("set", x.set(ones[k], whats[k], values[k]), 0);
        }
        for (int k = 15; k >= 4; k--) {
            Due.is("as it was set", x.of(ones[k], whats[k]), values[k]);
            Due.is("undo", x.undo(), k - 4);
            Due.is("as it was ahead", x.of(ones[k], whats[k]), 0);
        }
        Due.is("undo", x.undo(), STATE);
        for (int k = 0; k < 16; k++) {
            Due.is("what remains", x.of(ones[k], whats[k]), k < 4 ? values[k] : 0);
        }
        for (int k = 4; k < 16; k++) {
            Due.is("redo", x.redo(), 15 - k);
            Due.is("as it was set", x.of(ones[k], whats[k]), values[k]);
        }
    }

    /** A new object with a CHANGE that can be UNDONE, and one that can be DONE AGAIN. */
    private static BlownSpaces changed() {
        BlownSpaces x = new BlownSpaces();
        Due.read(x, "a");
        x.set(0, 0, 3);
        x.set(0, 0, 4);
        x.undo();
        changesAre(x, 1, 1);
        return x;
    }

    private static void whatEndsChanges() {
        BlownSpaces x = changed();
        x.product(2, 0, 0);
        changesAre(x, 0, 0);
        x = changed();
        x.blow();
        changesAre(x, 0, 0);
        x = changed();
        x.curved();
        changesAre(x, 0, 0);
        Due.read(x, "a");
        x.set(0, 0, 1);
        x.curve(0, 0);
        changesAre(x, 1, 0);
        x.curve(1, 0);
        changesAre(x, 0, 0);
        x = changed();
        x.conics();
        changesAre(x, 0, 0);
        x = changed();
        x.canonical();
        changesAre(x, 0, 0);
        x = changed();
        x.drop();
        changesAre(x, 0, 0);
        x = changed();
        Due.read(x, "a");
        changesAre(x, 0, 0);
        x = changed();
        Due.acts(x, "sum 0 0");
        changesAre(x, 0, 0);
        x = changed();
        x.image();
        changesAre(x, 1, 1);
        x.back();
        changesAre(x, 0, 0);
        x = changed();
        x.back();
        x.product(0, 0, 0);
        x.curve(1, 0);
        Due.read(x, "b");
        Due.acts(x, "sum 0 1");
        Due.acts(x, "sum 0");
        x.tell(0, 1, 9);
        x.set(0, 0, 3);
        x.act(0, 0, 0);
        x.write(0);
        changesAre(x, 1, 1);
    }

    /** Promises 42 to 44. */
    private static void image() {
        BlownSpaces x = new BlownSpaces();
        Due.is("alike", x.alike(), STATE);
        Due.is("back", x.back(), STATE);
        Due.read(x, "2a+1");
        Due.read(x, "a^2");
        x.set(1, 0, 2);
        x.set(1, 1, 4);
        Due.is("image", x.image(), 2);
        Due.is("alike", x.alike(), 1);
        x.set(1, 1, 5);
        Due.is("figure otherwise", x.alike(), 0);
        x.undo();
        Due.is("alike", x.alike(), 1);
        x.set(1, 0, 4);
        Due.is("kind otherwise, numbers as before", x.alike(), 0);
        x.undo();
        x.tell(0, 2, 1);
        Due.is("told otherwise", x.alike(), 0);
        x.tell(0, 2, 0);
        Due.is("alike", x.alike(), 1);
        x.drop();
        Due.is("a class less", x.alike(), 0);
        Due.read(x, "a");
        Due.is("another class", x.alike(), 0);
        Due.read(x, "a");
        Due.is("a class more", x.alike(), 0);
        Due.tape(x, "a+a");
        x.write(0);
        Due.list(x, 0, 0, 5);
        Due.is("back", x.back(), 2);
        Due.is("alike", x.alike(), 1);
        Due.is("tape", x.count(3), 3);
        Due.is("paper", x.count(4), 4);
        Due.is("list", x.get(0, 0), 5);
        Due.is("kind", x.of(1, 0), 2);
        Due.is("figure", x.of(1, 1), 4);
        Due.written(x, 0, "2a+1");
        Due.written(x, 1, "5a^2");
        x.drop();
        Due.is("image anew", x.image(), 1);
        Due.is("tape", x.wipe(), 3);
        Due.read(x, "7");
        Due.is("back", x.back(), 1);
        x.tell(0, 0, 3);
        Due.is("back, twice", x.back(), 1);
        Due.written(x, 0, "2a+1");
    }

    private static void imageOfSpaces() {
        BlownSpaces x = new BlownSpaces();
        x.product(1, 2, 0);
        Due.is("image", x.image(), 0);
        x.product(2, 1, 0);
        Due.is("otherwise", x.alike(), 0);
        x.product(3, 0, 0);
        Due.is("otherwise", x.alike(), 0);
        x.product(1, 1, 1);
        Due.is("otherwise", x.alike(), 0);
        x.product(1, 2, 0);
        Due.is("alike", x.alike(), 1);
        x.blow();
        Due.is("otherwise", x.alike(), 0);
        Due.read(x, "2p^3-a");
        Due.is("image", x.image(), 1);
        x.blow();
        Due.is("otherwise", x.alike(), 0);
        x.curved();
        Due.is("back", x.back(), 1);
        Due.is("letters", x.space(2), 3);
        Due.is("points", x.space(4), 1);
        Due.is("terms", x.space(5), 20);
        Due.is("met", x.met(0), 2);
        Due.written(x, 0, "-a+2p^3");
        x.product(3, 0, 0);
        x.image();
        x.curved();
        Due.is("another sort", x.alike(), 0);
        x.curve(2, 3);
        Due.read(x, "u^3");
        x.image();
        x.curved();
        x.curve(2, 2);
        Due.read(x, "u^3");
        Due.is("another genus", x.alike(), 0);
        x.curved();
        x.curve(3, 3);
        Due.read(x, "u^3");
        Due.is("another degree", x.alike(), 0);
        Due.is("back", x.back(), 1);
        Due.is("met", x.met(0), 2 - 6 - 8);
        x.curved();
        x.curve(2, 3);
        Due.read(x, "u^3");
        Due.is("alike", x.alike(), 1);
        x.conics();
        Due.is("image", x.image(), 0);
        x.product(2, 0, 0);
        Due.is("back", x.back(), 0);
        Due.is("v^5", x.worth(50), 51);
        Due.is("through", x.through(0, 5, -1), 1);
    }

    /** Promise 45. */
    private static void count() {
        BlownSpaces x = new BlownSpaces();
        Due.is("-1", x.count(-1), BAD);
        Due.is("6", x.count(6), BAD);
        Due.read(x, "13a+1");
        Due.read(x, "a");
        x.set(0, 1, 1);
        x.set(0, 1, 2);
        x.set(0, 1, 3);
        x.undo();
        Due.tape(x, "1234567");
        x.write(0);
        x.list(2, 1, 3);
        int[] want = {2, 2, 1, 7, 5, 1};
        for (int k = 0; k < want.length; k++) {
            Due.is("count(" + k + ")", x.count(k), want[k]);
        }
    }
}
