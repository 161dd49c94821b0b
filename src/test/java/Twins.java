/** Two objects made alike: the one is called, the other is not; afterwards both show the same. */
final class Twins {
    interface Way {
        void go(BlownSpaces x);
    }

    interface Call {
        long to(BlownSpaces x);
    }

    private Twins() {
    }

    /** The call answers as is due, and nothing changes: for what is refused, and for what is only asked. */
    static void keep(String what, Way way, Call call, long want) {
        BlownSpaces called = made(way);
        Due.is(what, call.to(called), want);
        Due.same(what + ": what is shown afterwards", Shown.by(called), Shown.by(made(way)));
    }

    /** The call answers as is due, and afterwards all is as if the other way had been gone instead. */
    static void become(String what, Way way, Call call, long want, Way instead) {
        BlownSpaces called = made(way);
        Due.is(what, call.to(called), want);
        BlownSpaces other = made(way);
        instead.go(other);
        Due.same(what + ": what is shown afterwards", Shown.by(called), Shown.by(other));
    }

    /** Refused in a furnished object of each SORT. */
    static void keepEverywhere(String what, Call call, long want) {
        keep(what + ", product", Rooms::plane, call, want);
        keep(what + ", points", Rooms::points, call, want);
        keep(what + ", curved", Rooms::curved, call, want);
        keep(what + ", conics", Rooms::conics, call, want);
    }

    private static BlownSpaces made(Way way) {
        BlownSpaces x = new BlownSpaces();
        way.go(x);
        return x;
    }
}
