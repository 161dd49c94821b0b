/** Promises 16 to 22: each sentence that names a boundary case. */
public final class MetEdgesTest {
    private static final int BAD = BlownSpaces.BAD;
    private static final int LEAST = Integer.MIN_VALUE, MOST = Integer.MAX_VALUE;
    private static final long VOID = BlownSpaces.VOID, GONE = BlownSpaces.GONE;
    private static final int[] NO_CLASSES = {2, -1, 8, LEAST, MOST};

    public static void main(String[] args) throws ReflectiveOperationException {
        Edges.run(MetEdgesTest.class);
    }

    private static BlownSpaces product(int a, int b, int c, String... classes) {
        BlownSpaces x = new BlownSpaces();
        x.product(a, b, c);
        read(x, classes);
        return x;
    }

    private static void read(BlownSpaces x, String... classes) {
        for (String text : classes) {
            int number = x.count(0);
            Due.is("read " + text, Due.read(x, text), number);
        }
    }

    // ---- promise 16

    @Says(promise = 16, value = "MET of a CLASS. VOID: BAD.")
    static void p16_onlyAClassThatIsThere() {
        for (int one : NO_CLASSES) {
            Twins.keepEverywhere("class " + one, x -> x.met(one), VOID);
        }
        Due.is("no classes", new BlownSpaces().met(0), VOID);
        BlownSpaces x = product(2, 0, 0, "a^2", "2a^2", "3a^2", "4a^2", "5a^2", "6a^2", "7a^2", "8a^2");
        Due.is("class 7", x.met(7), 8);
        Due.is("class 8", x.met(8), VOID);
    }

    @Says(promise = 16, value = "MET: of a CLASS: over all TERMS NUMBER times WORTH, together;")
    static void p16_onlyTermsOfSizeNCount() {
        BlownSpaces x = product(2, 0, 0, "9a+8", "0", "3a^2+9a+8");
        Due.is("none of SIZE n", x.met(0), 0);
        Due.is("no numbers", x.met(1), 0);
        Due.is("one", x.met(2), 3);
        x.product(1, 1, 0);
        x.blow();
        x.blow();
        read(x, "100ab+10p^2+2q^2+7a^2+7b^2+7ap+7bq+7pq+7p+7");
        Due.is("by their worths", x.met(0), 100 - 10 - 2);
        x.curved();
        x.curve(2, 3);
        read(x, "1000a^3+100au^2+u^3+7a^2u+7u^2+7u+7");
        Due.is("by their worths", x.met(0), 1000 - 200 + 2 - 6 - 8);
        x.conics();
        read(x, "1000a^5+100a^2v^3+10av^4+v^5+7a^4v+7a^3v^2+7a^4+7");
        Due.is("by their worths", x.met(0), 1000 + 400 + 180 + 51);
    }

    @Says(promise = 16, value = "All numbers are longs that wrap.")
    static void p16_wraps() {
        BlownSpaces x = product(1, 1, 0, "0");
        x.blow();
        x.tell(0, 11, Long.MAX_VALUE);
        x.tell(0, 200, -1);
        Due.is("one more than the greatest", x.met(0), Long.MIN_VALUE);
        x.tell(0, 11, 0);
        x.tell(0, 200, Long.MIN_VALUE);
        Due.is("0 less the least", x.met(0), Long.MIN_VALUE);
        x.conics();
        read(x, "0");
        x.tell(0, 32, 1L << 62);
        Due.is("four times", x.met(0), 0);
        x.tell(0, 50, 1L << 62);
        Due.is("51 times", x.met(0), 3L << 62);
    }

    @Says(promise = 16, value = "What is MET, WRITTEN, LIKE, multiplied, goes by NUMBERS, not by what is TOLD.")
    static void p16_goesByNumbers() {
        BlownSpaces x = product(3, 0, 0, "5a^3+a^2");
        int[] want = {5, -5, 15, 0, 15, -5};
        x.set(0, 1, 2);
        for (int kind = 0; kind <= 5; kind++) {
            x.set(0, 0, kind);
            Due.is("kind " + kind, x.met(0), want[kind]);
        }
    }

    /** The CLASSES of Rooms.plane are 10a^2+15a+25 and -77a+4 by their NUMBERS. */
    @Says(promise = 16, value = "2 All that follows is asked, and changes nothing.")
    static void p16_askingChangesNothing() {
        Twins.keep("met", Rooms::plane, x -> x.met(0), 10);
        Twins.keep("meets", Rooms::plane, x -> x.meets(0, 1), 10 * 4 - 15 * 77);
        Twins.keep("meetsAll", Rooms::plane, x -> x.meetsAll(0), 725 * 4 - 750 * 77);
        Twins.keep("self", Rooms::plane, x -> x.self(0, 2), 725);
        Twins.keep("like", Rooms::plane, x -> x.like(0, 1), 0);
        Twins.keep("chern", Rooms::plane, x -> x.chern(2), 3);
        Twins.Way line = x -> {
            Rooms.plane(x);
            x.set(0, 0, 3);
            x.set(0, 1, 1);
            x.list(0, 0, 1);
        };
        Twins.keep("cutOut", line, x -> x.cutOut(0, 0), 1);
        Twins.keep("cutOut", line, x -> x.cutOut(0, 1), -9);
        Twins.keep("cutOut", line, x -> x.cutOut(0, 2), 0);
        Twins.keep("cutOut", line, x -> x.cutOut(0, 3), 1);
    }

    /** What one asking leaves behind inside must not come into the next. */
    @Says(promise = 16, value = "2 All that follows is asked, and changes nothing.")
    static void p16_askingInAnyOrder() {
        Twins.Way plane = x -> {
            x.product(2, 1, 0);
            read(x, "3a^2b+a^3-b^3+7ab+2a+5", "2a^3+4a^2b+a+b-9", "2a+3b");
            Due.list(x, 0, 0, 2);
            Due.list(x, 1, 1, 8, 4);
            Due.list(x, 2, 0, 1, 0, 2);
        };
        Twins.Call[] asked = {x -> x.met(0), x -> x.meets(0, 1), x -> x.meetsAll(2), x -> x.self(1, 3), x -> x.like(0, 1),
            x -> x.like(1, 1), x -> x.chern(21), x -> x.cutOut(0, 1), x -> x.cutOut(0, 2), x -> x.judge(1),
            x -> x.lots(3, 5, 0), x -> x.self(1, 0), x -> x.of(1, 2), x -> x.write(1)};
        inAnyOrder(plane, asked);
        Twins.Way conics = x -> {
            x.conics();
            read(x, "a^5+2a^3v^2-v^5+3av+7", "4a+5v-a^2v^2+v^4+1");
            Due.list(x, 0, 0, 3, 4);
            Due.list(x, 1, 1, 8, 4);
            Due.list(x, 2, 0, 1, 0, 1);
        };
        Twins.Call[] others = {x -> x.met(0), x -> x.meets(0, 1), x -> x.meetsAll(2), x -> x.self(1, 5), x -> x.like(0, 1),
            x -> x.through(2, 2, 0), x -> x.through(5, 0, -1), x -> x.through(0, 5, -1), x -> x.judge(1), x -> x.lots(3, 5, 0),
            x -> x.self(1, 0), x -> x.of(1, 2), x -> x.write(1)};
        inAnyOrder(conics, others);
        Twins.Way curved = x -> {
            x.curved();
            x.curve(3, 1);
            x.curve(2, 0);
            read(x, "2a^3+3au^2-u^3+av^2-5", "4a-u-v+a^2+3");
            Due.list(x, 0, 0);
            Due.list(x, 1, 1, 8, 4);
            Due.list(x, 2, 0, 1, 0, 1);
        };
        inAnyOrder(curved, ofAnySpace());
        Twins.Way points = x -> {
            x.product(1, 1, 0);
            x.blow();
            x.blow();
            read(x, "2ab+3p^2-q^2+a+5", "4a-b-p+2q+3");
            Due.list(x, 0, 0);
            Due.list(x, 1, 1, 8, 4);
            Due.list(x, 2, 0, 1, 0);
        };
        inAnyOrder(points, ofAnySpace());
        Twins.Way solid = x -> {
            x.product(3, 0, 0);
            read(x, "2a", "3a");
            Due.list(x, 0, 0);
            Due.list(x, 1, 1, 0);
            Due.list(x, 2, 0, 1, 0);
        };
        inAnyOrder(solid, ofAnySpace());
    }

    private static Twins.Call[] ofAnySpace() {
        return new Twins.Call[] {x -> x.met(0), x -> x.met(1), x -> x.meets(0, 1), x -> x.meetsAll(0), x -> x.meetsAll(2),
            x -> x.self(1, 0), x -> x.self(1, 3), x -> x.like(0, 1), x -> x.like(1, 1), x -> x.chern(1), x -> x.cutOut(0, 1),
            x -> x.cutOut(0, 2), x -> x.cutOut(1, 1), x -> x.cutOut(1, 2), x -> x.cutOut(2, 2), x -> x.cutOut(2, 3),
            x -> x.fits(0, 0, 3L, 0), x -> x.fits(0, 1, -12L, 1), x -> x.judge(1), x -> x.lots(3, 5, 0), x -> x.lots(9, 5, 1),
            x -> x.of(1, 2), x -> x.of(1, 3), x -> x.number(1, 1), x -> x.space(3), x -> x.worth(3), x -> x.write(1)};
    }

    private static void inAnyOrder(Twins.Way way, Twins.Call[] asked) {
        for (Twins.Call ahead : asked) {
            for (int k = 0; k < asked.length; k++) {
                BlownSpaces alone = new BlownSpaces();
                way.go(alone);
                BlownSpaces behind = new BlownSpaces();
                way.go(behind);
                ahead.to(behind);
                Due.is("question " + k + " behind another", asked[k].to(behind), asked[k].to(alone));
            }
        }
    }

    // ---- promise 17

    @Says(promise = 17, value = "MET of two CLASSES. VOID: BAD.")
    static void p17_onlyClassesThatAreThere() {
        for (int one : NO_CLASSES) {
            Twins.keepEverywhere("first " + one, x -> x.meets(one, 0), VOID);
            Twins.keepEverywhere("second " + one, x -> x.meets(0, one), VOID);
        }
        Due.is("no classes", new BlownSpaces().meets(0, 0), VOID);
        BlownSpaces x = product(2, 0, 0, "a", "2a", "3a", "4a", "5a", "6a", "7a", "8a");
        Due.is("the first and the last", x.meets(0, 7), 8);
        Due.is("the last and the first", x.meets(7, 0), 8);
        Due.is("the last with itself", x.meets(7, 7), 64);
        Due.is("class 8", x.meets(8, 0), VOID);
        Due.is("class 8", x.meets(0, 8), VOID);
    }

    @Says(promise = 17, value = "PRODUCT of two CLASSES: of all TERMS of the one and of the other, whose SIZES are n at most"
        + " together: the TERM with powers added has their NUMBERS multiplied, all of these together (the others fall"
        + " away).")
    static void p17_whatIsAboveNFallsAway() {
        BlownSpaces x = product(2, 0, 0, "a^2", "a", "1", "5a^2+7a+11", "2a^2+3a+13", "0");
        Due.is("size 4", x.meets(0, 0), 0);
        Due.is("size 3", x.meets(0, 1), 0);
        Due.is("size 2 of 2 and 0", x.meets(0, 2), 1);
        Due.is("size 2 of 0 and 2", x.meets(2, 0), 1);
        Due.is("size 2 of 1 and 1", x.meets(1, 1), 1);
        Due.is("size 1", x.meets(1, 2), 0);
        Due.is("size 0", x.meets(2, 2), 0);
        Due.is("all together", x.meets(3, 4), 5 * 13 + 7 * 3 + 11 * 2);
        Due.is("no numbers", x.meets(3, 5), 0);
        x.product(1, 1, 0);
        read(x, "a^2", "b", "a");
        Due.is("a^2 b stands nowhere", x.meets(0, 1), 0);
        Due.is("a a is worth nothing", x.meets(2, 2), 0);
        Due.is("a b", x.meets(2, 1), 1);
    }

    @Says(promise = 17, value = {"All numbers are longs that wrap.", "goes by NUMBERS, not by what is TOLD"})
    static void p17_wrapsAndGoesByNumbers() {
        BlownSpaces x = product(2, 0, 0, "0", "3a");
        x.tell(0, 1, Long.MAX_VALUE);
        Due.is("the greatest three times", x.meets(0, 1), Long.MAX_VALUE - 2);
        Due.is("the greatest with itself", x.meets(0, 0), 1);
        x.tell(0, 1, Long.MIN_VALUE);
        Due.is("the least three times", x.meets(1, 0), Long.MIN_VALUE);
        Due.is("the least with itself", x.meets(0, 0), 0);
        x.tell(0, 1, 5);
        x.set(1, 0, 1);
        Due.is("by numbers", x.meets(0, 1), -15);
        x.set(1, 0, 3);
        Due.is("part 0", x.meets(0, 1), 0);
        x.set(1, 1, 1);
        Due.is("part 1", x.meets(0, 1), 15);
    }

    // ---- promise 18

    @Says(promise = 18, value = "MET of all CLASSES whose numbers a LIST tells (none: of the TERM without powers). VOID:"
        + " list, missing; GONE: a number is of no CLASS.")
    static void p18_onlyAListThatIsThere() {
        for (int list : new int[] {-1, 3, LEAST, MOST, 2}) {
            Twins.keepEverywhere("list " + list, x -> x.meetsAll(list), VOID);
        }
        BlownSpaces x = product(2, 0, 0, "a^2");
        for (int list = 0; list <= 2; list++) {
            Due.is("missing", x.meetsAll(list), VOID);
            Due.list(x, list, 0, 0);
            Due.is("there", x.meetsAll(list), 1);
            x.list(list, -1, 0);
            Due.is("missing again", x.meetsAll(list), VOID);
        }
    }

    @Says(promise = 18, value = "(none: of the TERM without powers)")
    static void p18_ofNoneItIsTheTermWithoutPowers() {
        BlownSpaces x = new BlownSpaces();
        Due.list(x, 0, 0);
        Due.is("without classes", x.meetsAll(0), 0);
        x.product(1, 0, 0);
        Due.is("a line", x.meetsAll(0), 0);
        x.curved();
        Due.is("curved", x.meetsAll(0), 0);
        x.conics();
        Due.is("conics", x.meetsAll(0), 0);
        x = product(2, 0, 0, "a", "3a");
        Due.is("two of them", x.meets(0, 1), 3);
        Due.list(x, 0, 0);
        Due.is("of none, behind two", x.meetsAll(0), 0);
        Due.is("SELF 0, behind two", x.self(1, 0), 0);
    }

    @Says(promise = 18, value = {"GONE: a number is of no CLASS.",
        "A LIST may tell a CLASS twice, and a long of it that is none of a CLASS is GONE."})
    static void p18_aNumberOfNoClassIsGone() {
        for (long number : new long[] {2, -1, 8, 4294967296L, 4294967297L, -4294967296L, Long.MAX_VALUE, Long.MIN_VALUE}) {
            Twins.Way way = x -> {
                Rooms.plane(x);
                Due.list(x, 2, 1, 0, 1, number);
            };
            Twins.keep("number " + number, way, x -> x.meetsAll(2), GONE);
        }
        BlownSpaces x = product(2, 0, 0, "a", "3a");
        Due.list(x, 0, 1, 1, 1);
        Due.is("a class twice", x.meetsAll(0), 9);
        Due.list(x, 0, 0, 1, 4294967296L);
        Due.is("an int of it is its lowest bits", x.meetsAll(0), 3);
        Due.list(x, 0, 1, 1, 4294967296L);
        Due.is("a long is not", x.meetsAll(0), GONE);
        Due.list(x, 0, 0, 2, 0);
        Due.is("ahead of one that is there", x.meetsAll(0), GONE);
        x.drop();
        Due.list(x, 0, 0, 1, 0);
        Due.is("one that was there", x.meetsAll(0), GONE);
        x.drop();
        Due.list(x, 0, 0, 0);
        Due.is("of none at all", x.meetsAll(0), GONE);
    }

    @Says(promise = 18, value = "of several CLASSES that of their PRODUCT, one behind another")
    static void p18_oneToTwentyOfThem() {
        BlownSpaces x = product(5, 0, 0, "a", "2a+1", "1");
        Due.list(x, 0, 0, 0);
        Due.is("one, of SIZE 1", x.meetsAll(0), 0);
        Due.list(x, 0, 0, 0, 0, 0, 0, 0);
        Due.is("n of SIZE 1", x.meetsAll(0), 1);
        Due.list(x, 0, 0, 0, 0, 0, 0, 0, 0);
        Due.is("one more", x.meetsAll(0), 0);
        Due.list(x, 0, 0, 0, 0, 0, 0, 0, 2);
        Due.is("one more of 1", x.meetsAll(0), 1);
        Due.list(x, 0, 1, 1, 1, 1, 1, 1, 1, 1, 1, 1, 1, 1, 1, 1, 1, 1, 1, 1, 1, 1, 1);
        Due.is("twenty", x.meetsAll(0), 15504L * 32);
        x.tell(1, 1, 1L << 40);
        Due.is("wrapping", x.meetsAll(0), 0);
        x.tell(1, 1, 1L << 12);
        Due.is("wrapping", x.meetsAll(0), 15504L << 60);
    }

    // ---- promise 19

    @Says(promise = 19, value = {"SELF k. VOID: class, k.",
        "SELF k of a CLASS (k 0 .. 6): MET of its PRODUCT with itself, k times in all (k 0: of the TERM without powers,"
        + " with 1)."})
    static void p19_kIs0To6OfAClassThatIsThere() {
        for (int k : new int[] {-1, 7, LEAST, MOST}) {
            Twins.keepEverywhere("k " + k, x -> x.self(0, k), VOID);
        }
        for (int one : NO_CLASSES) {
            Twins.keepEverywhere("class " + one, x -> x.self(one, 0), VOID);
            Twins.keepEverywhere("class " + one, x -> x.self(one, 2), VOID);
        }
        Due.is("no classes", new BlownSpaces().self(0, 0), VOID);
        BlownSpaces x = product(5, 0, 0, "a^5+a+1");
        long[] want = {0, 1, 2, 3, 4, 5 + 1, 6 + 6};
        for (int k = 0; k <= 6; k++) {
            Due.is("k " + k, x.self(0, k), want[k]);
        }
    }

    @Says(promise = 19, value = {"SELF 0 is MET of 1.", "(k 0: of the TERM without powers, with 1)"})
    static void p19_self0IsMetOf1() {
        BlownSpaces x = product(1, 0, 0, "0", "5", "a");
        for (int one = 0; one <= 2; one++) {
            Due.is("class " + one, x.self(one, 0), 0);
        }
        Due.is("self 1", x.self(2, 1), 1);
        Due.is("self 2", x.self(2, 2), 0);
        Due.is("self 1 without numbers", x.self(0, 1), 0);
        Due.is("self 6 without numbers", x.self(0, 6), 0);
    }

    @Says(promise = 19, value = {"All numbers are longs that wrap.", "goes by NUMBERS, not by what is TOLD"})
    static void p19_wrapsAndGoesByNumbers() {
        BlownSpaces x = product(3, 0, 0, "9999a");
        Due.is("a third power", x.self(0, 3), 9999L * 9999L * 9999L);
        x.tell(0, 1, Long.MAX_VALUE);
        Due.is("wrapping", x.self(0, 3), Long.MAX_VALUE);
        x.set(0, 0, 1);
        Due.is("by numbers", x.self(0, 3), -Long.MAX_VALUE);
    }

    // ---- promise 20

    @Says(promise = 20, value = "Whether two CLASSES are LIKE: 1, 0. BAD.")
    static void p20_onlyClassesThatAreThere() {
        for (int one : NO_CLASSES) {
            Twins.keepEverywhere("first " + one, x -> x.like(one, 0), BAD);
            Twins.keepEverywhere("second " + one, x -> x.like(0, one), BAD);
        }
        Due.is("no classes", new BlownSpaces().like(0, 0), BAD);
        BlownSpaces x = product(2, 0, 0, "a", "2a", "3a", "4a", "5a", "6a", "7a", "a");
        Due.is("the first and the last", x.like(0, 7), 1);
        Due.is("the first and the second", x.like(0, 1), 0);
        Due.is("the last with itself", x.like(7, 7), 1);
        Due.is("class 8", x.like(7, 8), BAD);
    }

    @Says(promise = 20, value = "LIKE are two CLASSES, if the PRODUCTS of both with each single TERM (with 1) are MET alike.")
    static void p20_unlikeByOneTermAloneIsUnlike() {
        BlownSpaces x = product(2, 0, 0, "5a^2+6a+7", "4a^2+6a+7", "5a^2+5a+7", "5a^2+6a+6", "5a^2+6a+7");
        Due.is("by 1 alone", x.like(0, 1), 0);
        Due.is("by a alone", x.like(0, 2), 0);
        Due.is("by a^2 alone", x.like(0, 3), 0);
        Due.is("by none", x.like(0, 4), 1);
    }

    @Says(promise = 20, value = "LIKE are two CLASSES, if the PRODUCTS of both with each single TERM (with 1) are MET alike.")
    static void p20_unlikeNumbersThatAreMetAlikeAreLike() {
        BlownSpaces x = product(1, 1, 0, "a^2+3b^2+a", "a", "a+b^2", "ab");
        Due.is("squares are worth nothing", x.like(0, 1), 1);
        Due.is("squares are worth nothing", x.like(2, 0), 1);
        Due.is("ab is worth 1", x.like(3, 1), 0);
        x.product(3, 0, 0);
        x.blow();
        read(x, "p^3", "a^3", "ap", "0", "ap^2+a^2p", "p^2", "a^2");
        Due.is("p^3 as a^3", x.like(0, 1), 1);
        Due.is("ap as nothing", x.like(2, 3), 1);
        Due.is("ap^2 as nothing", x.like(4, 3), 1);
        Due.is("p^2 is met by p", x.like(5, 3), 0);
        Due.is("p^2 and a^2", x.like(5, 6), 0);
        x.product(1, 0, 0);
        x.blow();
        read(x, "p", "a", "p+1");
        Due.is("on a line p as a", x.like(0, 1), 1);
        Due.is("1 is met by p", x.like(0, 2), 0);
    }

    @Says(promise = 20, value = "LIKE are two CLASSES, if the PRODUCTS of both with each single TERM (with 1) are MET alike.")
    static void p20_whereTheTermsAreTheMost() {
        BlownSpaces x = product(3, 1, 1);
        x.blow();
        x.blow();
        x.blow();
        read(x, "0", "a^3bc", "r^5", "a^4b", "a", "r", "1", "a^3bc+a^5+b^5+pqr+ap^4");
        int[] likes = {0, 1, 1, 0, 2, 3, 4, 1};
        for (int one = 0; one < 8; one++) {
            for (int other = 0; other < 8; other++) {
                Due.is("classes " + one + " and " + other, x.like(one, other), likes[one] == likes[other] ? 1 : 0);
            }
        }
        x.conics();
        read(x, "51a^5", "v^5", "0", "a^4v", "51", "51+v", "2a^2v^3-8a^5");
        Due.is("met by 1", x.like(0, 1), 1);
        Due.is("met by none", x.like(2, 3), 1);
        Due.is("met by none", x.like(2, 6), 1);
        Due.is("v^5 and none", x.like(1, 2), 0);
        Due.is("1 is met by a^5", x.like(4, 2), 0);
        Due.is("v is met by v^4", x.like(4, 5), 0);
    }

    @Says(promise = 20, value = {"All numbers are longs that wrap.", "What is MET, WRITTEN, LIKE, multiplied, goes by NUMBERS,"
        + " not by what is TOLD."})
    static void p20_wrapsAndGoesByNumbers() {
        BlownSpaces x = new BlownSpaces();
        x.curved();
        x.curve(2, 0);
        x.curve(1, 0);
        read(x, "0", "0");
        x.tell(0, 20, Long.MIN_VALUE);
        Due.is("by even worths the least long is met as 0", x.like(0, 1), 1);
        x.tell(0, 200, Long.MIN_VALUE);
        Due.is("by odd ones it is not", x.like(0, 1), 0);
        x.product(2, 0, 0);
        read(x, "3a", "-3a", "a");
        Due.is("told unlike", x.like(0, 1), 0);
        x.set(1, 0, 1);
        Due.is("numbers alike", x.like(0, 1), 1);
        x.set(2, 0, 2);
        x.set(2, 1, 2);
        Due.is("numbers alike", x.like(2, 1), 1);
        x.set(2, 0, 3);
        Due.is("part 2 of it", x.like(2, 0), 0);
    }

    // ---- promise 21

    @Says(promise = 21, value = {"CHERN of THE SPACE at a TERM. VOID: code; GONE: THE SPACE is no PRODUCT, or has POINTS.",
        "of several the first as the call's words name them"})
    static void p21_onlyOfAProductWithoutPoints() {
        for (int code : new int[] {-1, 6, 1000, 1000000, LEAST, MOST}) {
            Twins.keepEverywhere("void goes ahead of gone, code " + code, x -> x.chern(code), VOID);
        }
        for (int code : new int[] {0, 1, 2}) {
            Twins.keep("points", Rooms::points, x -> x.chern(code), GONE);
            Twins.keep("curved", Rooms::curved, x -> x.chern(code), GONE);
            Twins.keep("conics", Rooms::conics, x -> x.chern(code), GONE);
        }
        BlownSpaces x = new BlownSpaces();
        Due.is("size n", x.chern(2), 3);
        Due.is("size n + 1", x.chern(3), VOID);
        Due.is("a letter that is not", x.chern(10), VOID);
        x.blow();
        Due.is("a point", x.chern(2), GONE);
        Due.is("a point", x.chern(10), GONE);
        x.curved();
        Due.is("curved, without curves", x.chern(0), GONE);
        x.product(2, 0, 0);
        Due.is("a product again", x.chern(1), 3);
    }

    @Says(promise = 21, value = "CHERN of a PRODUCT without POINTS: the PRODUCT of (1 plus a FACTOR's LETTER) to the power"
        + " (its DIMENSION plus 1), for all FACTORS.")
    static void p21_chernAtEachTerm() {
        int[][] spaces = {{1, 0, 0}, {2, 0, 0}, {3, 0, 0}, {4, 0, 0}, {5, 0, 0}, {1, 1, 0}, {1, 2, 0}, {2, 1, 0}, {4, 1, 0},
            {2, 3, 0}, {1, 1, 1}, {1, 2, 1}, {2, 2, 1}, {3, 1, 1}, {1, 1, 3}};
        for (int[] space : spaces) {
            BlownSpaces x = product(space[0], space[1], space[2]);
            for (int k = 0; k < x.space(5); k++) {
                int code = x.term(k);
                long want = choose(space[0] + 1, code % 10);
                want *= space[1] == 0 ? 1 : choose(space[1] + 1, code / 10 % 10);
                want *= space[2] == 0 ? 1 : choose(space[2] + 1, code / 100);
                Due.is("product " + space[0] + space[1] + space[2] + ", code " + code, x.chern(code), want);
            }
        }
    }

    private static long choose(int of, int many) {
        return many == 0 ? 1 : of == 0 ? 0 : choose(of - 1, many) + choose(of - 1, many - 1);
    }

    // ---- promise 22

    private static void cutIs(BlownSpaces x, int list, long... want) {
        for (int what = 0; what < want.length; what++) {
            Due.is("what " + what, x.cutOut(list, what), want[what]);
        }
    }

    @Says(promise = 22, value = {"CUT OUT by a LIST: DEPTH (what 0),", "VOID: list, what, missing; GONE: THE SPACE is no PRODUCT, or has POINTS, a number is of no"
        + " CLASS, a CLASS is not as told, or there are more than n.",
        "of several the first as the call's words name them"})
    static void p22_listWhatAndMissingGoAheadOfGone() {
        for (int list : new int[] {-1, 3, LEAST, MOST}) {
            Twins.keepEverywhere("list " + list, x -> x.cutOut(list, 0), VOID);
        }
        Twins.keepEverywhere("missing", x -> x.cutOut(2, 0), VOID);
        for (int what : new int[] {-1, 4, LEAST, MOST}) {
            Twins.keepEverywhere("what " + what, x -> x.cutOut(0, what), VOID);
        }
        BlownSpaces x = new BlownSpaces();
        Due.list(x, 0, 0);
        Due.is("what -1", x.cutOut(0, -1), VOID);
        Due.is("what 4", x.cutOut(0, 4), VOID);
        Due.is("what 0", x.cutOut(0, 0), 2);
        Due.is("what 3", x.cutOut(0, 3), GONE);
    }

    @Says(promise = 22, value = {"GONE: THE SPACE is no PRODUCT, or has POINTS,", "(in a PRODUCT without POINTS;"})
    static void p22_onlyInAProductWithoutPoints() {
        for (int what = 0; what <= 3; what++) {
            int asked = what;
            for (Twins.Way way : new Twins.Way[] {Rooms::points, Rooms::curved, Rooms::conics}) {
                Twins.keep("what " + what, y -> {
                    way.go(y);
                    y.list(0, 0, 0);
                }, y -> y.cutOut(0, asked), GONE);
            }
        }
        BlownSpaces x = new BlownSpaces();
        Due.list(x, 0, 0);
        Due.is("a plane", x.cutOut(0, 0), 2);
        x.blow();
        Due.is("a point", x.cutOut(0, 0), GONE);
        x.curved();
        Due.is("curved, without curves", x.cutOut(0, 0), GONE);
        x.product(1, 0, 0);
        Due.is("a line", x.cutOut(0, 0), 1);
    }

    @Says(promise = 22, value = {"a number is of no CLASS",
        "A LIST may tell a CLASS twice, and a long of it that is none of a CLASS is GONE."})
    static void p22_aNumberOfNoClassIsGone() {
        for (long number : new long[] {1, -1, 8, 4294967296L, Long.MIN_VALUE, Long.MAX_VALUE}) {
            BlownSpaces x = product(2, 0, 0, "3a");
            Due.list(x, 0, 1, number);
            Due.is("number " + number, x.cutOut(0, 0), GONE);
            Due.list(x, 0, 1, 0, number);
            Due.is("number " + number + " behind another", x.cutOut(0, 1), GONE);
        }
        BlownSpaces x = product(2, 0, 0, "3a");
        Due.list(x, 0, 1, 0, 0);
        cutIs(x, 0, 0, 9, 9, GONE);
    }

    @Says(promise = 22, value = {"CUT OUT by CLASSES in a LIST", "one place for each, n at most;", "or there are more than n."})
    static void p22_theyAreNAtMost() {
        for (int n = 1; n <= 5; n++) {
            BlownSpaces x = product(n, 0, 0, "a");
            for (int many = 0; many <= 20; many++) {
                Due.list(x, 0, 0, new long[many]);
                Due.is("n " + n + ", " + many + " of them", x.cutOut(0, 0), many <= n ? n - many : GONE);
                Due.is("canonical", x.cutOut(0, 1), many <= n ? power(-n - 1, n - many) : GONE);
            }
        }
    }

    private static long power(long of, int times) {
        return times == 0 ? 1 : of * power(of, times - 1);
    }

    @Says(promise = 22, value = {"each has NUMBERS that aren't 0 at TERMS of SIZE 1 alone, or none)",
        "a CLASS is not as told", "A CLASS without NUMBERS can be CUT OUT."})
    static void p22_numbersStandAtSize1AloneOrNowhere() {
        BlownSpaces x = product(1, 1, 0, "3a+2b", "3a+1", "3a+ab", "1", "b^2", "0", "2b");
        long[] want = {1, GONE, GONE, GONE, GONE, 1, 1};
        for (int one = 0; one < want.length; one++) {
            Due.list(x, 0, 0, one);
            Due.is("class " + one, x.cutOut(0, 0), want[one]);
            Due.list(x, 0, 0, 0, one);
            Due.is("class " + one + " behind another", x.cutOut(0, 0), want[one] == GONE ? GONE : 0);
            Due.list(x, 0, 0, one, 0);
            Due.is("class " + one + " ahead of another", x.cutOut(0, 0), want[one] == GONE ? GONE : 0);
        }
        Due.list(x, 0, 0, 5);
        cutIs(x, 0, 1, 0, 0, 1);
        Due.list(x, 0, 0, 5, 5);
        cutIs(x, 0, 0, 0, 0, GONE);
    }

    @Says(promise = 22, value = {"each has NUMBERS that aren't 0 at TERMS of SIZE 1 alone, or none)",
        "goes by NUMBERS, not by what is TOLD"})
    static void p22_itGoesByNumbers() {
        BlownSpaces x = product(2, 0, 0, "4a^2+3a+5");
        Due.list(x, 0, 0, 0);
        Due.is("not as told", x.cutOut(0, 0), GONE);
        x.set(0, 0, 3);
        Due.is("part 0", x.cutOut(0, 0), GONE);
        x.set(0, 1, 1);
        cutIs(x, 0, 1, -9, 0, 1);
        x.set(0, 1, 2);
        Due.is("part 2", x.cutOut(0, 0), GONE);
        x.set(0, 1, 3);
        cutIs(x, 0, 1, 0, 0, 1);
        x.tell(0, 0, 0);
        x.tell(0, 2, 0);
        x.set(0, 0, 5);
        cutIs(x, 0, 1, 9, -18, 10);
    }

    @Says(promise = 22, value = {"DEPTH is n less how many these are; CLASS of it: their PRODUCT (of none: 1);",
        "EULER of it: MET of the part of SIZE DEPTH of that with its CLASS;", "EULER (2),"})
    static void p22_ofNoneItIsTheWholeSpace() {
        for (int n = 1; n <= 5; n++) {
            BlownSpaces x = product(n, 0, 0);
            Due.list(x, 0, 0);
            cutIs(x, 0, n, power(-n - 1, n), n + 1, n == 1 ? 0 : GONE);
        }
        BlownSpaces x = product(2, 2, 1);
        Due.list(x, 0, 1);
        cutIs(x, 0, 5, -30 * 9 * 9 * 2, 18, GONE);
    }

    @Says(promise = 22, value = {"GENUS of it, if DEPTH is 1: 1 less half its EULER (cut toward 0).", "GENUS (3; GONE: DEPTH"
        + " is not 1)", "Of GENUS the half is cut."})
    static void p22_genusOfDepth1Alone() {
        BlownSpaces x = product(3, 0, 0, "2a", "3a", "a");
        Due.list(x, 0, 0);
        Due.is("depth 3", x.cutOut(0, 3), GONE);
        Due.list(x, 0, 0, 0);
        Due.is("depth 2", x.cutOut(0, 3), GONE);
        Due.list(x, 0, 0, 0, 1);
        cutIs(x, 0, 1, -24, 6 * (4 - 5), 4);
        Due.list(x, 0, 0, 0, 1, 2);
        Due.is("depth 0", x.cutOut(0, 3), GONE);
        x.product(2, 0, 0);
        read(x, "0", "0");
        Due.list(x, 0, 0, 0);
        for (long d = -3; d <= 9; d++) {
            x.tell(0, 1, d);
            cutIs(x, 0, 1, -3 * d, 3 * d - d * d, 1 - (3 * d - d * d) / 2);
        }
    }

    @Says(promise = 22, value = {"MET of its CLASS times CANONICAL of THE SPACE as often as DEPTH (1)",
        "CANONICAL of DEPTH 0 is the CLASS alone."})
    static void p22_canonicalOfDepth0IsTheClassAlone() {
        BlownSpaces x = product(2, 0, 0, "5a", "7a");
        Due.list(x, 0, 0, 0, 1);
        cutIs(x, 0, 0, 35, 35, GONE);
        x.product(1, 0, 0);
        read(x, "-4a");
        Due.list(x, 0, 0, 0);
        cutIs(x, 0, 0, -4, -4, GONE);
        x.product(1, 1, 1);
        read(x, "a+2b+3c", "a+b+c");
        Due.list(x, 0, 0, 0, 1, 1);
        cutIs(x, 0, 0, 12, 12, GONE);
        Due.list(x, 0, 0, 0, 1);
        cutIs(x, 0, 1, -24, -(12 + 22 - 24), 6);
        Due.list(x, 0, 0, 0);
        cutIs(x, 0, 2, 48, 24 - 44 + 36, GONE);
    }

    @Says(promise = 22, value = "its CHERN: CHERN of THE SPACE times (for each of these D: 1 less D plus D times D less ..,"
        + " up to SIZE n);")
    static void p22_eulerOfHypersurfaces() {
        for (int n = 1; n <= 5; n++) {
            for (int d = 1; d <= 6; d++) {
                BlownSpaces x = product(n, 0, 0, d + "a");
                Due.list(x, 0, 0, 0);
                long want = 0;
                for (int k = 0; k < n; k++) {
                    want += choose(n + 1, k) * power(-d, n - 1 - k) * d;
                }
                Due.is("n " + n + ", degree " + d, x.cutOut(0, 2), want);
            }
        }
        BlownSpaces x = product(5, 0, 0, "3a", "2a");
        Due.list(x, 0, 0, 0, 1);
        Due.is("a cubic and a quadric in five", x.cutOut(0, 2), 6 * (20 - 15 * 5 + 6 * 19 - 65));
    }

    @Says(promise = 22, value = "All numbers are longs that wrap.")
    static void p22_wraps() {
        BlownSpaces x = product(2, 0, 0, "0");
        x.tell(0, 1, 1L << 62);
        Due.list(x, 0, 0, 0);
        cutIs(x, 0, 1, 1L << 62, -(1L << 62), 1 + (1L << 61));
        Due.list(x, 0, 0, 0, 0);
        cutIs(x, 0, 0, 0, 0, GONE);
        x.tell(0, 1, Long.MIN_VALUE);
        Due.list(x, 0, 0, 0);
        cutIs(x, 0, 1, Long.MIN_VALUE, Long.MIN_VALUE, 1 + (1L << 62));
    }
}
