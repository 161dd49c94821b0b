/** Promises 27 to 32: each sentence that names a boundary case. */
public final class TapeEdgesTest {
    private static final int BAD = BlownSpaces.BAD, NOT = BlownSpaces.NOT;
    private static final int FULL = BlownSpaces.FULL, STATE = BlownSpaces.STATE;
    private static final int LEAST = Integer.MIN_VALUE, MOST = Integer.MAX_VALUE;
    private static final int[] NO_CLASSES = {2, -1, 8, LEAST, MOST};
    private static final String FIGURES = "0123456789";

    public static void main(String[] args) throws ReflectiveOperationException {
        Edges.run(TapeEdgesTest.class);
    }

    private static BlownSpaces product(int a, int b, int c, int points, String... classes) {
        BlownSpaces x = new BlownSpaces();
        x.product(a, b, c);
        for (int k = 0; k < points; k++) {
            x.blow();
        }
        read(x, classes);
        return x;
    }

    private static void read(BlownSpaces x, String... classes) {
        for (String text : classes) {
            int number = x.count(0);
            Due.is("read " + text, Due.read(x, text), number);
        }
    }

    private static void changesAre(BlownSpaces x, int done, int undone) {
        Due.is("to be undone", x.count(1), done);
        Due.is("to be done again", x.count(2), undone);
    }

    private static String times(String text, int many) {
        return text.repeat(many);
    }

    // ---- promise 27

    @Says(promise = 27, value = {"A byte comes behind THE TAPE's: how many it has. BAD; FULL: it has 80.",
        "3 THE TAPE holds 0 .. 80 bytes 32 .. 126."})
    static void p27_bytesAre32To126() {
        for (int letter : new int[] {31, 127, 0, -1, 10, 128, 255, 256 + 97, 65536 + 97, LEAST, MOST}) {
            Twins.keepEverywhere("byte " + letter, x -> x.feed(letter), BAD);
        }
        BlownSpaces x = new BlownSpaces();
        for (int letter = 32; letter <= 111; letter++) {
            Due.is("byte " + letter, x.feed(letter), letter - 31);
        }
        x.wipe();
        for (int letter = 112; letter <= 126; letter++) {
            Due.is("byte " + letter, x.feed(letter), letter - 111);
        }
    }

    @Says(promise = 27, value = {"FULL: it has 80.", "of several the first as the call's words name them"})
    static void p27_the80thByteComesAnotherDoesNot() {
        BlownSpaces x = new BlownSpaces();
        for (int k = 1; k <= 80; k++) {
            Due.is("feed", x.feed('1'), k);
            Due.is("has", x.count(3), k);
        }
        Due.is("one more", x.feed('1'), FULL);
        Due.is("has", x.count(3), 80);
        Due.is("bad goes ahead of full", x.feed(31), BAD);
        Due.is("bad goes ahead of full", x.feed(127), BAD);
        Twins.keep("full", Rooms::full, y -> y.feed('a'), FULL);
        Twins.keep("full", Rooms::full, y -> y.feed(127), BAD);
        x.wipe();
        Due.is("there is room again", x.feed('1'), 1);
    }

    @Says(promise = 27, value = "A byte comes behind THE TAPE's")
    static void p27_comesBehindWhatIsThere() {
        BlownSpaces x = product(2, 0, 0, 0);
        x.feed('1');
        x.feed('2');
        x.feed('a');
        Due.is("read", x.read(), 0);
        Due.written(x, 0, "12a");
    }

    @Says(promise = 27, value = "FULL (-3).")
    static void p27_fullIsMinus3() {
        BlownSpaces x = new BlownSpaces();
        Rooms.full(x);
        Due.is("full", x.feed(32), -3);
        Due.is("and stays full", x.feed(126), -3);
        Due.is("has", x.wipe(), 80);
    }

    // ---- promise 28

    @Says(promise = 28, value = "THE TAPE is empty: how many it had.")
    static void p28_fromEmptyAndFromFull() {
        BlownSpaces x = new BlownSpaces();
        Due.is("empty", x.wipe(), 0);
        Due.is("empty", x.wipe(), 0);
        x.feed('a');
        Due.is("one", x.wipe(), 1);
        Due.is("has", x.count(3), 0);
        for (int k = 1; k <= 80; k++) {
            x.feed('a');
        }
        Due.is("full", x.wipe(), 80);
        Due.is("has", x.count(3), 0);
        Due.is("empty", x.wipe(), 0);
        Due.is("what comes is the first", x.feed('7'), 1);
        Due.is("read", x.read(), 0);
        Due.written(x, 0, "7");
        Twins.keep("an empty one", y -> {
            Rooms.plane(y);
            y.wipe();
        }, BlownSpaces::wipe, 0);
    }

    @Says(promise = 28, value = "THE TAPE is empty")
    static void p28_nothingElseChanges() {
        BlownSpaces x = new BlownSpaces();
        Rooms.plane(x);
        Due.is("wipe", x.wipe(), 4);
        changesAre(x, 3, 1);
        Due.is("classes", x.count(0), 2);
        Due.is("lists", x.count(5), 2);
    }

    // ---- promise 29

    @Says(promise = 29, value = {"THE TAPE is a CLASS: its number.", "CLASSES are numbered from 0 as they come, 8 at most",
        "FULL: there are 8."})
    static void p29_theEighthComesANinthDoesNot() {
        BlownSpaces x = new BlownSpaces();
        for (int k = 0; k < 8; k++) {
            Due.is("read", Due.read(x, "a"), k);
            Due.is("kind", x.of(k, 0), 0);
            Due.is("figure", x.of(k, 1), 0);
        }
        Due.is("a ninth", Due.read(x, "a"), FULL);
        Due.is("classes", x.count(0), 8);
        x.drop();
        Due.is("the eighth again", Due.read(x, "5a"), 7);
        Due.written(x, 7, "5a");
    }

    @Says(promise = 29, value = {"THE TAPE is empty behind each call that reads it, by a FAULT and by all that can't be done,"
        + " too.", "a FAULT goes ahead of FULL."})
    static void p29_theTapeIsEmptyBehindIt() {
        BlownSpaces x = new BlownSpaces();
        Due.is("a class", Due.read(x, "a"), 0);
        Due.is("tape", x.count(3), 0);
        Due.is("a fault", Due.read(x, "a+"), -102);
        Due.is("tape", x.count(3), 0);
        Due.is("what comes is the first", Due.read(x, "2a"), 1);
        for (int k = 2; k < 8; k++) {
            Due.read(x, "a");
        }
        Due.is("full", Due.read(x, "a"), FULL);
        Due.is("tape", x.count(3), 0);
        Due.is("a fault goes ahead of full", Due.read(x, "a+"), -102);
        Due.is("tape", x.count(3), 0);
        Due.is("a fault goes ahead of full", x.read(), -100);
    }

    @Says(promise = 29, value = {"(where they are not refused, by no FAULT)",
        "what leaves no CHANGES leaves none to be DONE AGAIN, too; a FAULT, ACTS that can't be done,"})
    static void p29_aFaultAndFullEndNothing() {
        Twins.become("a fault", y -> {
            Rooms.plane(y);
            y.feed('+');
        }, BlownSpaces::read, -105, BlownSpaces::wipe);
        Twins.become("full", y -> {
            Rooms.full(y);
            y.wipe();
            y.feed('3');
        }, BlownSpaces::read, FULL, BlownSpaces::wipe);
        Twins.become("a fault, full", Rooms::full, BlownSpaces::read, -105, BlownSpaces::wipe);
        BlownSpaces x = new BlownSpaces();
        Rooms.plane(x);
        Due.is("a class", x.read(), 2);
        changesAre(x, 0, 0);
        Due.is("undo", x.undo(), STATE);
    }

    private static void isRead(String text, String want, BlownSpaces x) {
        int number = x.count(0);
        Due.is("read " + text, Due.read(x, text), number);
        Due.written(x, number, want);
        x.drop();
    }

    private static void isFault(String text, int fault, BlownSpaces x) {
        int number = x.count(0);
        Due.is("read " + text, Due.read(x, text), -100 - fault);
        Due.is("classes", x.count(0), number);
        Due.is("tape", x.count(3), 0);
    }

    /**
     * Behind a beginning, each byte 32 .. 126: with some the text is a CLASS, with some it ends too early, each other
     * one is the FAULT.
     */
    private static void bytesBehind(Twins.Way way, String beginning, String right, String early) {
        for (char sign = 32; sign <= 126; sign++) {
            BlownSpaces x = new BlownSpaces();
            way.go(x);
            int length = beginning.length();
            int want = right.indexOf(sign) >= 0 ? 0 : -100 - length - (early.indexOf(sign) >= 0 ? 1 : 0);
            Due.is("read " + beginning + sign, Due.read(x, beginning + sign), want);
            Due.is("tape", x.count(3), 0);
        }
    }

    /** LETTERS a, b, p; n is 3. */
    private static void blown(BlownSpaces x) {
        x.product(1, 2, 0);
        x.blow();
    }

    private static final String MEMBER = "MEMBER: a number (1 to 4 figures, as many as stand there), and POWERS behind it or"
        + " none; or POWERS: one or more LETTERS of THE SPACE, in their order, none twice, each perhaps with ^ and a figure"
        + " 1 .. 5 behind it. No blanks.";
    private static final String FAULT = "FAULT: the first byte with which no such text goes on, read from the left (a LETTER by"
        + " which SIZE would be above n: that one; a figure behind ^ by which it would: that figure), or the length, if it"
        + " ends too early.";

    @Says(promise = 29, value = {"As a CLASS: perhaps -, MEMBER, then any number of times + or - and MEMBER.", FAULT,
        "-100 less the FAULT;"})
    static void p29_whatMayBegin() {
        bytesBehind(TapeEdgesTest::blown, "", FIGURES + "abp", "-");
        bytesBehind(TapeEdgesTest::blown, "-", FIGURES + "abp", "");
        bytesBehind(TapeEdgesTest::blown, "a+", FIGURES + "abp", "");
        bytesBehind(TapeEdgesTest::blown, "7-", FIGURES + "abp", "");
        BlownSpaces x = product(1, 2, 0, 1);
        isFault("", 0, x);
        isFault("-", 1, x);
        isFault("a-", 2, x);
        isFault("-a+", 3, x);
        isFault("+a", 0, x);
        isFault("--a", 1, x);
        isFault("-+a", 1, x);
        isFault("a+-b", 2, x);
    }

    @Says(promise = 29, value = {MEMBER, FAULT, "Numbers of THE TAPE may have 0 ahead;"})
    static void p29_aNumberHas1To4Figures() {
        bytesBehind(TapeEdgesTest::blown, "1", FIGURES + "abp", "+-");
        bytesBehind(TapeEdgesTest::blown, "123", FIGURES + "abp", "+-");
        bytesBehind(TapeEdgesTest::blown, "1234", "abp", "+-");
        BlownSpaces x = product(1, 2, 0, 1);
        isRead("9999", "9999", x);
        isRead("9999a", "9999a", x);
        isRead("-9999b", "-9999b", x);
        isRead("0", "0", x);
        isRead("-0", "0", x);
        isRead("0000", "0", x);
        isRead("0001", "1", x);
        isRead("0099a", "99a", x);
        isRead("000a", "0", x);
        isFault("10000", 4, x);
        isFault("00000", 4, x);
        isFault("00001a", 4, x);
        isFault("a+10000", 6, x);
        isFault("1234a5", 5, x);
    }

    @Says(promise = 29, value = {MEMBER, FAULT, "a LETTER that comes twice, or out of order, or by which SIZE would be above n,"
        + " is itself the FAULT, a figure behind ^ likewise;"})
    static void p29_lettersStandInOrderAndNoneTwice() {
        bytesBehind(TapeEdgesTest::blown, "a", "bp", "^+-");
        bytesBehind(TapeEdgesTest::blown, "b", "p", "^+-");
        bytesBehind(TapeEdgesTest::blown, "p", "", "^+-");
        bytesBehind(TapeEdgesTest::blown, "ab", "p", "^+-");
        bytesBehind(TapeEdgesTest::blown, "3a", "bp", "^+-");
        bytesBehind(TapeEdgesTest::blown, "a^2", "bp", "+-");
        BlownSpaces x = product(1, 2, 0, 1);
        isFault("aa", 1, x);
        isFault("ba", 1, x);
        isFault("pb", 1, x);
        isFault("apb", 2, x);
        isFault("aba", 2, x);
        isFault("a^2a", 3, x);
        isFault("c", 0, x);
        isFault("aq", 1, x);
        isFault("a+u", 2, x);
        isRead("a+a+ap+ab", "ab+ap+2a", x);
    }

    @Says(promise = 29, value = {MEMBER, FAULT})
    static void p29_aFigureBehindThePowerIs1To5() {
        Twins.Way five = x -> x.product(5, 0, 0);
        bytesBehind(five, "a^", "12345", "");
        bytesBehind(five, "a^1", "", "+-");
        bytesBehind(five, "2a^5", "", "+-");
        Twins.Way two = x -> x.product(3, 2, 0);
        bytesBehind(two, "a^2", "b", "+-");
        bytesBehind(two, "a^2b^", "123", "");
        BlownSpaces x = product(5, 0, 0, 0);
        isFault("a^", 2, x);
        isFault("a^0", 2, x);
        isFault("a^6", 2, x);
        isFault("a^12", 3, x);
        isFault("a^^1", 2, x);
        isFault("^1", 0, x);
        isFault("3^1", 1, x);
        isRead("a^1", "a", x);
        isRead("a^5+a^4", "a^5+a^4", x);
    }

    @Says(promise = 29, value = {FAULT, "or by which SIZE would be above n, is itself the FAULT, a figure behind ^ likewise;"})
    static void p29_sizeIsNAtMost() {
        bytesBehind(TapeEdgesTest::blown, "a^", "123", "");
        bytesBehind(TapeEdgesTest::blown, "ab^", "12", "");
        bytesBehind(TapeEdgesTest::blown, "abp^", "1", "");
        bytesBehind(TapeEdgesTest::blown, "abp", "", "^+-");
        bytesBehind(TapeEdgesTest::blown, "a^3", "", "+-");
        bytesBehind(TapeEdgesTest::blown, "ab^2", "", "+-");
        bytesBehind(TapeEdgesTest::blown, "a^2b", "", "^+-");
        Twins.Way line = x -> {
            x.product(1, 0, 0);
            x.blow();
        };
        bytesBehind(line, "a", "", "^+-");
        bytesBehind(line, "a^", "1", "");
        BlownSpaces x = product(1, 0, 0, 1);
        isRead("a^1", "a", x);
        isFault("a^2", 2, x);
        isFault("ap", 1, x);
        isFault("a^1p", 3, x);
        isFault("9p^1+8a+7+p^2", 12, x);
        x = product(3, 1, 1, 3);
        isRead("abpqr", "abpqr", x);
        isFault("abcpqr", 5, x);
        isFault("a^2bpqr", 6, x);
        isFault("abpqr^2", 6, x);
        isRead("a^4r", "a^4r", x);
        isFault("a^5r", 3, x);
        isFault("a^4r^2", 5, x);
    }

    @Says(promise = 29, value = {"No blanks.", FAULT})
    static void p29_noBlanks() {
        BlownSpaces x = product(1, 2, 0, 1);
        isFault(" ", 0, x);
        isFault(" a", 0, x);
        isFault("a ", 1, x);
        isFault("- a", 1, x);
        isFault("a +b", 1, x);
        isFault("a+ b", 2, x);
        isFault("3 a", 1, x);
        isFault("a b", 1, x);
        isFault("a^ 2", 2, x);
        isFault("a ^2", 1, x);
        isFault("a^2 ", 3, x);
    }

    @Says(promise = 29, value = {"one or more LETTERS of THE SPACE, in their order", "LETTERS a, then u, v, w, one for each"
        + " CURVE.", "SORT 2 CONICS: n is 5: LETTERS a, v."})
    static void p29_lettersOfTheOtherSorts() {
        bytesBehind(BlownSpaces::curved, "", FIGURES + "a", "-");
        bytesBehind(x -> {
            x.curved();
            x.curve(1, 0);
            x.curve(1, 0);
        }, "", FIGURES + "auv", "-");
        bytesBehind(x -> {
            x.curved();
            x.curve(1, 0);
            x.curve(1, 0);
            x.curve(1, 0);
        }, "av", "w", "^+-");
        bytesBehind(BlownSpaces::conics, "", FIGURES + "av", "-");
        bytesBehind(BlownSpaces::conics, "a^3v^", "12", "");
        bytesBehind(x -> x.product(1, 1, 1), "", FIGURES + "abc", "-");
        bytesBehind(x -> x.product(2, 0, 0), "", FIGURES + "a", "-");
    }

    @Says(promise = 29, value = "Of MEMBERS with like powers numbers are added.")
    static void p29_membersWithLikePowersAreAdded() {
        BlownSpaces x = product(1, 2, 0, 1);
        isRead("a+a", "2a", x);
        isRead("a-a", "0", x);
        isRead("-a-a", "-2a", x);
        isRead("a+a^1+0001a", "3a", x);
        isRead("ab^1-4a^1b", "-3ab", x);
        isRead("1-2+4", "3", x);
        isRead("9999+9999+9999+9999+9999+9999+9999+9999+9999+9999+9999+9999+9999+9999+9999+9999", "159984", x);
    }

    @Says(promise = 29, value = {"then any number of times + or - and MEMBER", "THE TAPE holds 0 .. 80 bytes 32 .. 126."})
    static void p29_anyNumberOfMembersUpTo80Bytes() {
        BlownSpaces x = new BlownSpaces();
        isRead("-a" + times("-a", 39), "-40a", x);
        isRead("1" + times("+1", 39), "40", x);
        isRead("1a" + times("+1", 39), "a+39", x);
        isFault("a" + times("+a", 39) + "+", 80, x);
        isFault("a" + times("+a", 39) + "a", 79, x);
    }

    // ---- promise 30

    private static final String ACTS = "As ACTS: one or more, with ; between: a word, then two numbers, each with a blank ahead:"
        + " sum i j; times i j (PRODUCT); minus i j (the one less the other); power i k (k 0 .. 6: the PRODUCT of so many; of"
        + " none: 1); part i k (its NUMBERS at TERMS of SIZE k). A number is a figure.";
    private static final String ACT_FAULT = "FAULT: the first byte with which no such text goes on (of a word none of these its"
        + " first byte; a word is as many of a .. z as stand there), or the length.";
    private static final String CANNOT = "Else they are done one behind another, till one can't be (no such CLASS so far, k above"
        + " 6, of power and part, 8 CLASSES): then none of them is.";

    /** Behind a beginning, each byte 32 .. 126, where CLASS 0 is there alone. */
    private static void actBytesBehind(String beginning, String right, String early, int ofLetters) {
        for (char sign = 32; sign <= 126; sign++) {
            BlownSpaces x = product(2, 0, 0, 0, "a+1");
            int length = beginning.length();
            int want = right.indexOf(sign) >= 0 ? 1 : -100 - length - (early.indexOf(sign) >= 0 ? 1 : 0);
            want = sign >= 'a' && sign <= 'z' ? -100 - ofLetters : want;
            Due.is("acts " + beginning + sign, Due.acts(x, beginning + sign), want);
            Due.is("tape", x.count(3), 0);
            Due.is("classes", x.count(0), want == 1 ? 2 : 1);
        }
    }

    @Says(promise = 30, value = {ACTS, ACT_FAULT, "-100 less the FAULT;"})
    static void p30_whatMayFollow() {
        actBytesBehind("", "", "", 0);
        for (String word : new String[] {"sum", "times", "minus", "power", "part"}) {
            actBytesBehind(word, "", " ", 0);
            actBytesBehind(word + " ", "", FIGURES, word.length() + 1);
            actBytesBehind(word + " 0", "", " ", word.length() + 2);
            actBytesBehind(word + " 0 0", "", ";", word.length() + 4);
            actBytesBehind(word + " 0 0;", "", "", word.length() + 5);
            actBytesBehind("sum 0 0;" + word, "", " ", 8);
            figuresBehind("sum 0 0;" + word + " 1 ", word.startsWith("p") ? 6 : 1);
        }
    }

    /** Behind the last blank any figure stands right, but an ACT can be with those alone that are most at most. */
    private static void figuresBehind(String beginning, int most) {
        for (char sign = 32; sign <= 126; sign++) {
            BlownSpaces x = product(2, 0, 0, 0, "a+1");
            boolean canBe = sign >= '0' && sign <= '0' + most;
            int want = FIGURES.indexOf(sign) < 0 ? -100 - beginning.length() : canBe ? 2 : -201;
            Due.is("acts " + beginning + sign, Due.acts(x, beginning + sign), want);
            Due.is("tape", x.count(3), 0);
            Due.is("classes", x.count(0), canBe ? 3 : 1);
        }
    }

    private static void isActFault(String text, int fault) {
        BlownSpaces x = product(2, 0, 0, 0, "a");
        Due.is("acts " + text, Due.acts(x, text), -100 - fault);
        Due.is("tape", x.count(3), 0);
        Due.is("classes", x.count(0), 1);
    }

    @Says(promise = 30, value = {ACT_FAULT})
    static void p30_ofAWordNoneOfTheseItsFirstByte() {
        for (String word : new String[] {"s", "su", "sums", "summ", "usm", "time", "timess", "minu", "minuss", "powe", "powers",
            "par", "parts", "sumtimes", "tum", "zimes", "ninus", "qower", "dart", "a", "z", "partpart"}) {
            isActFault(word, 0);
            isActFault(word + " 0 0", 0);
            isActFault("sum 0 0;" + word, 8);
            isActFault("sum 0 0;" + word + " 0 0", 8);
        }
        isActFault("Sum 0 0", 0);
        isActFault("SUM 0 0", 0);
        isActFault("suM 0 0", 0);
        isActFault("sumM 0 0", 3);
        isActFault("sum{", 3);
        isActFault("sum`", 3);
        isActFault("sum@ 0 0", 3);
        isActFault(times("z", 80), 0);
        isActFault(times("sum 0 0;", 9) + times("z", 8), 72);
    }

    @Says(promise = 30, value = {ACT_FAULT, "one or more, with ; between"})
    static void p30_theLengthIfItEndsTooEarly() {
        isActFault("", 0);
        String whole = "power 0 0;part 0 1";
        isActFault(whole.substring(0, 5), 5);
        isActFault(whole.substring(0, 6), 6);
        isActFault(whole.substring(0, 7), 7);
        isActFault(whole.substring(0, 8), 8);
        isActFault(whole.substring(0, 10), 10);
        isActFault(whole.substring(0, 14), 14);
        isActFault(whole.substring(0, 15), 15);
        isActFault(whole.substring(0, 16), 16);
        isActFault(whole.substring(0, 17), 17);
        isActFault(";power 0 0", 0);
        isActFault("power 0 0;;", 10);
        isActFault("power 0 0 ;", 9);
        isActFault("power 0 0; part 0 1", 10);
        isActFault("power  0 0", 6);
        isActFault("power 0  0", 8);
        isActFault("power 00 0", 7);
        isActFault("power 0 00", 9);
        isActFault("power -1 0", 6);
        BlownSpaces x = product(2, 0, 0, 0, "a");
        Due.is("whole", Due.acts(x, whole), 2);
        Due.is("the first alone", Due.acts(x, whole.substring(0, 9)), 1);
    }

    @Says(promise = 30, value = {ACTS, "THE TAPE is ACTS: how many.", "Each makes a CLASS more, of KIND 0, FIGURE 0.",
        "ACTS may use CLASSES of those ahead of them;"})
    static void p30_oneTo7OfThem() {
        for (int many = 1; many <= 7; many++) {
            BlownSpaces x = product(2, 0, 0, 0, "a");
            x.set(0, 0, 2);
            x.set(0, 1, 1);
            StringBuilder text = new StringBuilder("sum 0 0");
            for (int k = 1; k < many; k++) {
                text.append(";sum ").append(k).append(" ").append(k);
            }
            Due.is("how many", Due.acts(x, text.toString()), many);
            Due.is("classes", x.count(0), many + 1);
            for (int k = 1; k <= many; k++) {
                Due.written(x, k, (2 << k) + "a");
                Due.is("kind", x.of(k, 0), 0);
                Due.is("figure", x.of(k, 1), 0);
            }
        }
    }

    @Says(promise = 30, value = {"power i k (k 0 .. 6: the PRODUCT of so many; of none: 1)", "k above 6, of power and part"})
    static void p30_powerIs0To6() {
        String[] want = {"1", "2a+1", "4a^2+4a+1", "8a^3+12a^2+6a+1", "32a^3+24a^2+8a+1", "80a^3+40a^2+10a+1",
            "160a^3+60a^2+12a+1"};
        for (int k = 0; k <= 9; k++) {
            BlownSpaces x = product(3, 0, 0, 0, "2a+1");
            Due.is("power " + k, Due.acts(x, "power 0 " + k), k <= 6 ? 1 : -200);
            Due.is("classes", x.count(0), k <= 6 ? 2 : 1);
            if (k <= 6) {
                Due.written(x, 1, want[k]);
            }
        }
        BlownSpaces x = product(3, 0, 0, 0, "0");
        Due.is("of nothing", Due.acts(x, "power 0 0;power 0 1"), 2);
        Due.written(x, 1, "1");
        Due.written(x, 2, "0");
    }

    @Says(promise = 30, value = {"part i k (its NUMBERS at TERMS of SIZE k)", "part with k above n comes without NUMBERS."})
    static void p30_partIs0To6() {
        String[] want = {"7", "2a+5b", "3ab-4b^2", "0", "0", "0", "0"};
        for (int k = 0; k <= 9; k++) {
            BlownSpaces x = product(1, 1, 0, 0, "3ab-4b^2+2a+5b+7");
            Due.is("part " + k, Due.acts(x, "part 0 " + k), k <= 6 ? 1 : -200);
            Due.is("classes", x.count(0), k <= 6 ? 2 : 1);
            if (k <= 6) {
                Due.written(x, 1, want[k]);
                Due.is("numbers", x.of(1, 2) == 0 ? 1 : 0, k > 2 ? 1 : 0);
            }
        }
        BlownSpaces x = product(5, 0, 0, 0, "a^5+1");
        Due.is("part n and n + 1", Due.acts(x, "part 0 5;part 0 6"), 2);
        Due.written(x, 1, "a^5");
        Due.written(x, 2, "0");
    }

    @Says(promise = 30, value = {"times i j (PRODUCT); minus i j (the one less the other);", "whose SIZES are n at most together",
        "All numbers are longs that wrap.", "goes by NUMBERS, not by what is TOLD"})
    static void p30_actsWrapAndGoByNumbers() {
        BlownSpaces x = product(2, 0, 0, 0, "a", "3a");
        x.tell(0, 1, Long.MAX_VALUE);
        Due.is("acts", Due.acts(x, "sum 0 1;minus 1 0;minus 0 1;times 0 1;power 0 2"), 5);
        Due.is("sum", x.number(2, 1), Long.MIN_VALUE + 2);
        Due.is("the one less the other", x.number(3, 1), Long.MIN_VALUE + 4);
        Due.is("the other less the one", x.number(4, 1), Long.MAX_VALUE - 3);
        Due.is("product", x.number(5, 2), Long.MAX_VALUE - 2);
        Due.is("power", x.number(6, 2), 1);
        x = product(2, 0, 0, 0, "a^2+2a+3", "a+1");
        x.set(0, 0, 1);
        x.set(1, 0, 5);
        Due.is("acts", Due.acts(x, "sum 0 1;minus 0 1;times 0 1;power 1 2;part 0 1"), 5);
        Due.written(x, 2, "-a^2-3a-2");
        Due.written(x, 3, "-a^2-a-4");
        Due.written(x, 4, "a^2+a-3");
        Due.written(x, 5, "a^2-2a+1");
        Due.written(x, 6, "-2a");
    }

    @Says(promise = 30, value = {"sum i j; times i j (PRODUCT); minus i j (the one less the other); power i k"})
    static void p30_atEachTermFromTheFirstToTheLast() {
        BlownSpaces x = product(2, 0, 0, 0, "2a^2+3a+5", "7a^2+11a+13");
        Due.is("acts", Due.acts(x, "sum 0 1;minus 0 1;times 0 1;power 1 2;minus 1 0"), 5);
        Due.written(x, 2, "9a^2+14a+18");
        Due.written(x, 3, "-5a^2-8a-8");
        Due.written(x, 4, "94a^2+94a+65");
        Due.written(x, 5, "303a^2+286a+169");
        Due.written(x, 6, "5a^2+8a+8");
    }

    @Says(promise = 30, value = "whose SIZES are n at most together: the TERM with powers added has their NUMBERS multiplied, all"
        + " of these together (the others fall away)")
    static void p30_powersThatAre10TogetherFallAwayToo() {
        BlownSpaces x = new BlownSpaces();
        x.conics();
        read(x, "a^5+2v^5+3a^4v+1", "a^5-v^5+5");
        Due.is("acts", Due.acts(x, "times 0 0;times 0 1;power 0 6;power 1 2"), 4);
        Due.written(x, 2, "2a^5+6a^4v+4v^5+1");
        Due.written(x, 3, "6a^5+15a^4v+9v^5+5");
        Due.written(x, 4, "6a^5+18a^4v+12v^5+1");
        Due.written(x, 5, "10a^5-10v^5+25");
        x = product(4, 1, 0, 1, "a^5+b^5+p^5", "a^4b+bp^4");
        Due.is("acts", Due.acts(x, "times 0 0;times 0 1;times 1 1"), 3);
        for (int one = 2; one <= 4; one++) {
            Due.written(x, one, "0");
        }
    }

    @Says(promise = 30, value = "sum i j; times i j (PRODUCT); minus i j (the one less the other); power i k")
    static void p30_whereTheTermsAreTheMost() {
        BlownSpaces x = product(3, 1, 1, 3, "a^5+r+2", "a+r^5-1");
        Due.is("acts", Due.acts(x, "sum 0 1;minus 0 1;times 0 1;power 0 2;part 0 5;part 1 0"), 6);
        Due.written(x, 2, "a^5+a+r^5+r+1");
        Due.written(x, 3, "a^5-a-r^5+r+3");
        Due.written(x, 4, "-a^5+ar+2a+2r^5-r-2");
        Due.written(x, 5, "4a^5+r^2+4r+4");
        Due.written(x, 6, "a^5");
        Due.written(x, 7, "-1");
    }

    /** ACTS that can't be: none of them is, and all but THE TAPE is as before. */
    private static void cannotBe(Twins.Way way, String text, int ahead) {
        Twins.become(text, x -> {
            way.go(x);
            x.wipe();
            Due.tape(x, text);
        }, BlownSpaces::acts, -200 - ahead, BlownSpaces::wipe);
    }

    @Says(promise = 30, value = {CANNOT, "-200 less the number of ACTS ahead of one that can't be.",
        "THE TAPE is empty behind each call that reads it, by a FAULT and by all that can't be done, too.",
        "a FAULT, ACTS that can't be done, and telling what is so already end nothing."})
    static void p30_noSuchClassSoFar() {
        for (String word : new String[] {"sum", "times", "minus"}) {
            cannotBe(Rooms::plane, word + " 2 0", 0);
            cannotBe(Rooms::plane, word + " 0 2", 0);
            cannotBe(Rooms::plane, word + " 9 9", 0);
            cannotBe(Rooms::plane, "sum 0 1;" + word + " 3 2", 1);
            cannotBe(Rooms::plane, "sum 0 1;" + word + " 2 3", 1);
            cannotBe(Rooms::plane, "sum 0 1;sum 2 2;" + word + " 9 0", 2);
        }
        for (String word : new String[] {"power", "part"}) {
            cannotBe(Rooms::plane, word + " 2 0", 0);
            cannotBe(Rooms::plane, "sum 0 1;" + word + " 3 0", 1);
            cannotBe(Rooms::plane, word + " 0 7", 0);
            cannotBe(Rooms::plane, "sum 0 1;" + word + " 2 7", 1);
            cannotBe(Rooms::plane, word + " 9 9", 0);
        }
        BlownSpaces x = new BlownSpaces();
        Due.is("no classes", Due.acts(x, "power 0 0"), -200);
        Due.is("no classes", Due.acts(x, "sum 0 0"), -200);
        Due.is("the first comes as 0", Due.read(x, "a"), 0);
        Due.is("the last that is there", Due.acts(x, "sum 0 0;sum 1 1"), 2);
    }

    @Says(promise = 30, value = {CANNOT, "one by which there would be a ninth CLASS can't be done;"})
    static void p30_aNinthClassCannotBe() {
        cannotBe(Rooms::full, "sum 0 0", 0);
        cannotBe(Rooms::full, "part 0 0;sum 0 0", 0);
        cannotBe(x -> {
            Rooms.full(x);
            x.drop();
        }, "part 0 0;part 7 0", 1);
        cannotBe(Rooms::plane, times("sum 0 0;", 6) + "sum 0 0", 6);
        cannotBe(Rooms::plane, times("sum 0 0;", 9) + "sum 0 0", 6);
        BlownSpaces x = product(2, 0, 0, 0, "a", "a");
        Due.is("up to eight", Due.acts(x, times("sum 0 0;", 5) + "sum 0 0"), 6);
        Due.is("classes", x.count(0), 8);
        Due.is("a ninth", Due.acts(x, "sum 0 0"), -200);
        x.drop();
        Due.is("an eighth", Due.acts(x, "sum 6 6"), 1);
        Due.written(x, 7, "4a");
    }

    @Says(promise = 30, value = {ACT_FAULT, "a FAULT, ACTS that can't be done, and telling what is so already end nothing."})
    static void p30_aFaultGoesAheadOfWhatCannotBeAndEndsNothing() {
        for (String text : new String[] {"", "sum 9 9;su", "sum 0 1;sum 0 1,", "part 0 9;"}) {
            Twins.become("fault of " + text, x -> {
                Rooms.plane(x);
                x.wipe();
                Due.tape(x, text);
            }, BlownSpaces::acts, text.isEmpty() ? -100 : text.equals("sum 9 9;su") ? -108 : text.startsWith("s") ? -115 : -109,
                BlownSpaces::wipe);
        }
        Twins.become("fault where there are 8", Rooms::full, BlownSpaces::acts, -100, BlownSpaces::wipe);
    }

    @Says(promise = 30, value = {"What brings or takes CLASSES, LETTERS or THE SPACE, and back() leave none (where they are not"
        + " refused, by no FAULT).", "what leaves no CHANGES leaves none to be DONE AGAIN, too;"})
    static void p30_actsThatAreDoneLeaveNoChanges() {
        BlownSpaces x = new BlownSpaces();
        Rooms.plane(x);
        x.wipe();
        changesAre(x, 3, 1);
        Due.is("acts", Due.acts(x, "sum 0 0"), 1);
        changesAre(x, 0, 0);
        Due.is("undo", x.undo(), STATE);
        Due.is("redo", x.redo(), STATE);
    }

    // ---- promise 31

    @Says(promise = 31, value = "A CLASS is WRITTEN onto THE PAPER: how many bytes it is (all of them). BAD.")
    static void p31_onlyAClassThatIsThere() {
        for (int one : NO_CLASSES) {
            Twins.keepEverywhere("class " + one, x -> x.write(one), BAD);
        }
        Due.is("no classes", new BlownSpaces().write(0), BAD);
        BlownSpaces x = product(2, 0, 0, 0, "a", "2a", "3a", "4a", "5a", "6a", "7a", "8a^2");
        Due.written(x, 7, "8a^2");
        Due.is("class 8", x.write(8), BAD);
        Due.same("the paper stays", Due.paper(x), "8a^2");
    }

    @Says(promise = 31, value = "WRITTEN: of TERMS at which NUMBERS aren't 0, in order: + (but for the first one) or -, the number"
        + " without its sign (not if that is 1 and SIZE isn't 0), then of each LETTER with a power above 0: it, and ^ and the"
        + " power, if that is above 1; of none a 0.")
    static void p31_numbersAndPowersOf0And1And2() {
        BlownSpaces x = product(2, 1, 0, 0, "0");
        Due.written(x, 0, "0");
        long[] numbers = {1, -1, 2, -2, 10, -10, 11, 9999};
        String[] alone = {"1", "-1", "2", "-2", "10", "-10", "11", "9999"};
        String[] ahead = {"", "-", "2", "-2", "10", "-10", "11", "9999"};
        String[] behind = {"+", "-", "+2", "-2", "+10", "-10", "+11", "+9999"};
        for (int k = 0; k < numbers.length; k++) {
            x.tell(0, 0, numbers[k]);
            x.tell(0, 1, 0);
            x.tell(0, 12, 0);
            Due.written(x, 0, alone[k]);
            x.tell(0, 1, numbers[k]);
            Due.written(x, 0, ahead[k] + "a" + (numbers[k] < 0 ? "" : "+") + alone[k]);
            x.tell(0, 12, 3);
            Due.written(x, 0, "3a^2b" + behind[k] + "a" + (numbers[k] < 0 ? "" : "+") + alone[k]);
            x.tell(0, 12, 0);
            x.tell(0, 1, 0);
        }
        x = product(3, 1, 1, 3, "abc+a^5-ac^2+r-c^2r^3-p^2q^2");
        Due.written(x, 0, "a^5+abc-ac^2-c^2r^3-p^2q^2+r");
    }

    @Says(promise = 31, value = {"Of the least long the number without its sign is as it is with it, without the -.",
        "All numbers are longs that wrap."})
    static void p31_theLeastLong() {
        BlownSpaces x = product(2, 0, 0, 0, "0");
        x.tell(0, 1, Long.MIN_VALUE);
        Due.written(x, 0, "-9223372036854775808a");
        x.tell(0, 2, 1);
        x.tell(0, 0, Long.MIN_VALUE);
        Due.written(x, 0, "a^2-9223372036854775808a-9223372036854775808");
        x.set(0, 0, 1);
        Due.written(x, 0, "-a^2-9223372036854775808a-9223372036854775808");
        x.tell(0, 1, Long.MIN_VALUE + 1);
        x.tell(0, 0, Long.MAX_VALUE);
        Due.written(x, 0, "-a^2+9223372036854775807a-9223372036854775807");
    }

    @Says(promise = 31, value = {"of none a 0", "What is MET, WRITTEN, LIKE, multiplied, goes by NUMBERS, not by what is TOLD."})
    static void p31_goesByNumbers() {
        BlownSpaces x = product(2, 0, 0, 0, "a^2+2a-3");
        x.set(0, 1, 1);
        String[] want = {"a^2+2a-3", "-a^2-2a+3", "2a^2+4a-6", "2a", "2a^2+4a-6", "a^2-2a-3"};
        for (int kind = 0; kind <= 5; kind++) {
            x.set(0, 0, kind);
            Due.written(x, 0, want[kind]);
        }
        x.set(0, 0, 3);
        x.set(0, 1, 3);
        Due.written(x, 0, "0");
    }

    // ---- promise 32

    /** A CLASS that is so many bytes long, as it is WRITTEN. */
    private static String told(BlownSpaces x, int length) {
        StringBuilder text = new StringBuilder();
        for (int k = 0; length - text.length() > 19; k++) {
            int code = x.term(k);
            x.tell(0, code, -11111L);
            text.append("-11111");
            for (int letter = 0, rest = code; letter < 3; letter++, rest /= 10) {
                text.append(rest % 10 > 0 ? "abc".substring(letter, letter + 1) : "");
                text.append(rest % 10 > 1 ? "^" + rest % 10 : "");
            }
        }
        String last = "7".repeat(length - text.length() - 1);
        x.tell(0, 0, Long.parseLong(last));
        return text + "+" + last;
    }

    @Says(promise = 32, value = {"THE PAPER holds the latest one: its first 200 bytes (nothing at first).",
        "Byte i of THE PAPER. NOT: there is none such.", "how many bytes it is (all of them)"})
    static void p32_holdsTheFirst200Bytes() {
        for (int length : new int[] {100, 198, 199, 200, 201, 202, 300}) {
            BlownSpaces x = product(2, 2, 1, 0, "0");
            String want = told(x, length);
            Due.is("as long as it should be", want.length(), length);
            Due.is("write, all bytes", x.write(0), length);
            Due.is("holds", x.count(4), Math.min(length, 200));
            Due.same("the paper", Due.paper(x), want.substring(0, Math.min(length, 200)));
            Due.is("byte 199", x.paper(199), length >= 200 ? want.charAt(199) : NOT);
            Due.is("byte 200", x.paper(200), NOT);
            Due.is("byte -1", x.paper(-1), NOT);
        }
    }

    @Says(promise = 32, value = "Byte i of THE PAPER. NOT: there is none such.")
    static void p32_iIsFrom0ToTheLastByte() {
        for (int i : new int[] {-1, 200, LEAST, MOST}) {
            Twins.keepEverywhere("byte " + i, x -> x.paper(i), NOT);
        }
        BlownSpaces x = product(2, 0, 0, 0, "12a^2-3");
        Due.is("nothing at first", x.paper(0), NOT);
        Due.is("bytes", x.count(4), 0);
        x.write(0);
        String want = "12a^2-3";
        for (int i = 0; i < want.length(); i++) {
            Due.is("byte " + i, x.paper(i), want.charAt(i));
        }
        Due.is("byte 7", x.paper(7), NOT);
    }

    @Says(promise = 32, value = "THE PAPER holds the latest one")
    static void p32_aShorterOneLeavesNothingOfALonger() {
        BlownSpaces x = product(2, 0, 0, 0, "12a^2-3", "7", "0");
        x.write(0);
        Due.written(x, 1, "7");
        Due.is("byte 1", x.paper(1), NOT);
        x.write(0);
        Due.written(x, 2, "0");
        Due.is("count", x.count(4), 1);
        x.drop();
        x.tell(1, 0, 9);
        Due.same("it stays as it was written", Due.paper(x), "0");
        x.conics();
        Due.same("it stays", Due.paper(x), "0");
    }
}
