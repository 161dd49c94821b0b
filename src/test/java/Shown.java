/**
 * All that an object shows by its calls, as a text. The look takes the object to pieces: CHANGES are DONE AGAIN and
 * UNDONE, THE TAPE is read, THE IMAGE is brought back.
 */
final class Shown {
    private final BlownSpaces x;
    private final StringBuilder text = new StringBuilder();

    private Shown(BlownSpaces x) {
        this.x = x;
    }

    static String by(BlownSpaces x) {
        Shown look = new Shown(x);
        look.counts();
        look.space();
        look.classes();
        look.lists();
        look.paper();
        look.trace();
        look.changes();
        look.tape();
        look.image();
        return look.text.toString();
    }

    private void tell(String what, long value) {
        text.append(what).append(' ').append(value).append("; ");
    }

    private void counts() {
        for (int what = 0; what <= 5; what++) {
            tell("count " + what, x.count(what));
        }
    }

    private void space() {
        for (int what = 0; what <= 5; what++) {
            tell("space " + what, x.space(what));
        }
        for (int k = 0; x.term(k) >= 0; k++) {
            tell("worth of " + x.term(k), x.worth(x.term(k)));
        }
    }

    private void classes() {
        for (int one = 0; one < x.count(0); one++) {
            tell("kind of " + one, x.of(one, 0));
            tell("figure of " + one, x.of(one, 1));
            for (int k = 0; x.term(k) >= 0; k++) {
                tell("number", x.number(one, x.term(k)));
            }
        }
    }

    private void lists() {
        for (int list = 0; list <= 2; list++) {
            tell("list " + list + " is as itself", x.copy(list, 0, list, 0, 0));
            tell("list 0 is as " + list, x.copy(0, 0, list, 0, 0));
            for (int i = 0; x.get(list, i) != BlownSpaces.VOID; i++) {
                tell("place", x.get(list, i));
            }
        }
    }

    private void paper() {
        for (int i = 0; x.paper(i) >= 0; i++) {
            text.append((char) x.paper(i));
        }
    }

    private void trace() {
        for (int i = 0; x.trace(i) >= 0; i++) {
            tell("trace", x.trace(i));
        }
    }

    private void kinds() {
        for (int one = 0; one < x.count(0); one++) {
            tell("kind of " + one, x.of(one, 0));
            tell("figure of " + one, x.of(one, 1));
        }
    }

    private void changes() {
        while (x.count(2) > 0) {
            tell("redo", x.redo());
            kinds();
        }
        while (x.count(1) > 0) {
            tell("undo", x.undo());
            kinds();
        }
    }

    private void tape() {
        if (x.count(0) == 8) {
            tell("drop", x.drop());
        }
        tell("read", x.read());
        tell("write", x.write(x.count(0) - 1));
        paper();
    }

    private void image() {
        tell("alike", x.alike());
        tell("back", x.back());
        space();
        classes();
    }
}
