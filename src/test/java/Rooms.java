/** Ways to furnish an object: something of all that it can hold, so that a call that should change nothing is seen to. */
final class Rooms {
    private Rooms() {
    }

    /** CLASSES 0 and 1 on a plane. */
    static void plane(BlownSpaces x) {
        furnish(x, "2a^2+3a+5", "7a-4");
    }

    /** CLASSES 0 and 1 on a product of two lines with one POINT. */
    static void points(BlownSpaces x) {
        x.product(1, 1, 0);
        x.blow();
        furnish(x, "2ab+3a+5p^2", "7a-4b+p");
    }

    /** CLASSES 0 and 1 on a CURVED space with one CURVE. */
    static void curved(BlownSpaces x) {
        x.curved();
        x.curve(3, 1);
        furnish(x, "2a^3+3au^2-u^3", "7a-4u+1");
    }

    /** CLASSES 0 and 1 on the space of all CONICS. */
    static void conics(BlownSpaces x) {
        x.conics();
        furnish(x, "2a^5+3a^2v^3-v", "6a-2v");
    }

    /** CLASSES 0 .. 7 on a line, and THE TAPE, THE PAPER full, too. */
    static void full(BlownSpaces x) {
        x.product(1, 0, 0);
        for (int k = 0; k < 6; k++) {
            Due.read(x, (k + 2) + "a-" + (k + 1));
        }
        furnish(x, "8a-9", "9a");
        while (x.count(3) < 80) {
            x.feed('+');
        }
    }

    /** THE IMAGE is unlike what is; three CHANGES can be UNDONE, one can be DONE AGAIN; LIST 2 is missing. */
    private static void furnish(BlownSpaces x, String one, String other) {
        Due.read(x, one);
        Due.read(x, other);
        x.image();
        x.tell(1, 1, 77);
        x.set(0, 1, 4);
        x.set(1, 0, 1);
        x.set(0, 0, 2);
        x.set(1, 1, 3);
        x.undo();
        x.act(1, 2, 5);
        x.write(0);
        Due.list(x, 0, 0, 0, 1, 0);
        Due.list(x, 1, 1, 10L, Long.MAX_VALUE);
        Due.tape(x, "3a-1");
    }
}
