/** Promises 27 to 32: the tape, the paper. */
public final class TapeTest {
    private static final int BAD = BlownSpaces.BAD, NOT = BlownSpaces.NOT;
    private static final int FULL = BlownSpaces.FULL, STATE = BlownSpaces.STATE;

    public static void main(String[] args) {
        feed();
        wipe();
        read();
        readOfOtherSpaces();
        faults();
        readWhenFull();
        acts();
        actsByNumbers();
        actFaults();
        actsThatCannotBe();
        write();
        paper();
        Due.end("TapeTest");
    }

    /** Promise 27. */
    private static void feed() {
        BlownSpaces x = new BlownSpaces();
        Due.is("31", x.feed(31), BAD);
        Due.is("127", x.feed(127), BAD);
        Due.is("-1", x.feed(-1), BAD);
        Due.is("a beyond bytes", x.feed(65536 + 97), BAD);
        Due.is("32", x.feed(32), 1);
        Due.is("126", x.feed(126), 2);
        for (int k = 3; k <= 80; k++) {
            Due.is("feed", x.feed(97), k);
        }
        Due.is("full", x.feed(97), FULL);
        Due.is("bad ahead of full", x.feed(31), BAD);
        Due.is("has", x.count(3), 80);
    }

    /** Promise 28. */
    private static void wipe() {
        BlownSpaces x = new BlownSpaces();
        Due.is("nothing", x.wipe(), 0);
        Due.tape(x, "abc");
        Due.is("three", x.wipe(), 3);
        Due.is("nothing", x.wipe(), 0);
        Due.is("has", x.count(3), 0);
        Due.is("not what was", Due.read(x, "2"), 0);
        Due.written(x, 0, "2");
    }

    private static void readIs(BlownSpaces x, String text, String want) {
        int number = x.count(0);
        Due.is("read " + text, Due.read(x, text), number);
        Due.is("kind", x.of(number, 0), 0);
        Due.is("figure", x.of(number, 1), 0);
        Due.is("tape", x.count(3), 0);
        Due.written(x, number, want);
        x.drop();
    }

    /** Promise 29. */
    private static void read() {
        BlownSpaces x = new BlownSpaces();
        x.product(2, 2, 1);
        readIs(x, "a", "a");
        readIs(x, "-a", "-a");
        readIs(x, "0", "0");
        readIs(x, "-0", "0");
        readIs(x, "0a^2", "0");
        readIs(x, "0007", "7");
        readIs(x, "00a", "0");
        readIs(x, "9999abc", "9999abc");
        readIs(x, "-9999", "-9999");
        readIs(x, "1a+1b-1c+1", "a+b-c+1");
        readIs(x, "c+b+a", "a+b+c");
        readIs(x, "a^1b^1c^1", "abc");
        readIs(x, "a^5", "a^5");
        readIs(x, "a^2b^2c", "a^2b^2c");
        readIs(x, "a^2c^3", "a^2c^3");
        readIs(x, "a+a+a-b-b+b", "3a-b");
        readIs(x, "a-a", "0");
        readIs(x, "9999+9999-1", "19997");
        readIs(x, "12ab-12a^1b", "0");
        StringBuilder longest = new StringBuilder("9");
        while (longest.length() < 79) {
            longest.append("+a");
        }
        longest.append("b");
        Due.is("length", longest.length(), 80);
        readIs(x, longest.toString(), "ab+38a+9");
        x.set(0, 0, 0);
        Due.read(x, "a");
        x.set(0, 0, 1);
        Due.read(x, "+");
        Due.is("a fault leaves changes", x.count(1), 1);
        Due.read(x, "b");
        Due.is("a class more leaves none", x.count(1), 0);
        Due.is("undo", x.undo(), STATE);
    }

    private static void readOfOtherSpaces() {
        BlownSpaces x = new BlownSpaces();
        x.product(1, 1, 1);
        x.blow();
        x.blow();
        x.blow();
        readIs(x, "ap^2-bqr+c-r^3", "ap^2-bqr+c-r^3");
        x.curved();
        x.curve(1, 1);
        x.curve(1, 1);
        readIs(x, "3auv+2v^2-u", "3auv-u+2v^2");
        faultIs(x, "w", 0);
        faultIs(x, "p", 0);
        faultIs(x, "b", 0);
        x.conics();
        readIs(x, "a^3v^2+v^5-av", "a^3v^2-av+v^5");
        faultIs(x, "u", 0);
        faultIs(x, "a^3v^3", 5);
    }

    private static void faultIs(BlownSpaces x, String text, int fault) {
        int classes = x.count(0);
        Due.is("read " + text, Due.read(x, text), -100 - fault);
        Due.is("tape", x.count(3), 0);
        Due.is("classes", x.count(0), classes);
    }

    /** FAULTS of promise 29. */
    private static void faults() {
        BlownSpaces x = new BlownSpaces();
        x.product(2, 2, 0);
        x.blow();
        faultIs(x, "", 0);
        faultIs(x, "-", 1);
        faultIs(x, "--a", 1);
        faultIs(x, "+a", 0);
        faultIs(x, "a+", 2);
        faultIs(x, "a+-b", 2);
        faultIs(x, "a++b", 2);
        faultIs(x, "a b", 1);
        faultIs(x, " a", 0);
        faultIs(x, "a ", 1);
        faultIs(x, "12345", 4);
        faultIs(x, "00001", 4);
        faultIs(x, "a2", 1);
        faultIs(x, "a^", 2);
        faultIs(x, "a^0", 2);
        faultIs(x, "a^6", 2);
        faultIs(x, "a^5", 2);
        faultIs(x, "a^22", 3);
        faultIs(x, "a^^2", 2);
        faultIs(x, "a^b", 2);
        faultIs(x, "aa", 1);
        faultIs(x, "a^2a", 3);
        faultIs(x, "ba", 1);
        faultIs(x, "apb", 2);
        faultIs(x, "c", 0);
        faultIs(x, "q", 0);
        faultIs(x, "A", 0);
        faultIs(x, "a^2b^3", 5);
        faultIs(x, "a^3bp", 4);
        faultIs(x, "a^3b^2", 5);
        faultIs(x, "a^4b", 3);
        faultIs(x, "3a^4+a^3b^1p", 11);
        faultIs(x, "3^2", 1);
        faultIs(x, "/", 0);
        faultIs(x, "1:", 1);
        faultIs(x, "1/a", 1);
        faultIs(x, "3*a", 1);
        faultIs(x, "a;", 1);
        faultIs(x, "a+b-~", 4);
        x.product(1, 0, 0);
        x.blow();
        faultIs(x, "ap", 1);
        faultIs(x, "a^2", 2);
    }

    private static void readWhenFull() {
        BlownSpaces x = new BlownSpaces();
        for (int k = 0; k < 8; k++) {
            Due.is("read", Due.read(x, "a"), k);
        }
        x.set(0, 0, 1);
        Due.is("full", Due.read(x, "a"), FULL);
        Due.is("tape", x.count(3), 0);
        Due.is("changes stay", x.count(1), 1);
        Due.is("a fault ahead of full", Due.read(x, "b"), -100);
        x.drop();
        Due.is("read", Due.read(x, "a"), 7);
    }

    /** Promise 30. */
    private static void acts() {
        BlownSpaces x = new BlownSpaces();
        x.product(2, 1, 0);
        Due.read(x, "2a+b");
        Due.read(x, "a-3b+1");
        x.set(0, 1, 5);
        Due.is("five", Due.acts(x, "sum 0 1;times 0 1;minus 0 1;power 2 2;part 3 2"), 5);
        Due.is("tape", x.count(3), 0);
        Due.is("changes", x.count(1), 0);
        Due.written(x, 2, "3a-2b+1");
        Due.written(x, 3, "2a^2-5ab+2a-3b^2+b");
        Due.written(x, 4, "a+4b-1");
        Due.written(x, 5, "9a^2-12ab+6a+4b^2-4b+1");
        Due.written(x, 6, "2a^2-5ab-3b^2");
        Due.is("kind", x.of(2, 0), 0);
        Due.is("figure", x.of(2, 1), 0);
        Due.is("one", Due.acts(x, "power 0 0"), 1);
        Due.written(x, 7, "1");
        x.drop();
        Due.is("one", Due.acts(x, "power 0 3"), 1);
        Due.written(x, 7, "8a^3+12a^2b+6ab^2+b^3");
        x.drop();
        Due.is("above n falls away", Due.acts(x, "power 0 4"), 1);
        Due.written(x, 7, "0");
        x.drop();
        Due.is("part above n", Due.acts(x, "part 0 6"), 1);
        Due.written(x, 7, "0");
        x.drop();
        Due.is("part 0", Due.acts(x, "part 1 0"), 1);
        Due.written(x, 7, "1");
        x.drop();
        Due.is("with itself", Due.acts(x, "times 1 1"), 1);
        Due.written(x, 7, "a^2-6ab+2a+9b^2-6b+1");
    }

    private static void actsByNumbers() {
        BlownSpaces x = new BlownSpaces();
        Due.read(x, "2a^2+3a+1");
        x.set(0, 0, 5);
        Due.is("acts", Due.acts(x, "sum 0 0;times 0 0;minus 1 0;power 0 1;part 0 1"), 5);
        Due.written(x, 0, "2a^2-3a+1");
        Due.written(x, 1, "4a^2-6a+2");
        Due.written(x, 2, "13a^2-6a+1");
        Due.written(x, 3, "2a^2-3a+1");
        Due.written(x, 4, "2a^2-3a+1");
        Due.written(x, 5, "-3a");
        Due.is("of those ahead", Due.acts(x, "minus 0 1;sum 6 6"), 2);
        Due.written(x, 6, "-2a^2+3a-1");
        Due.written(x, 7, "-4a^2+6a-2");
    }

    private static void actFaultIs(BlownSpaces x, String text, int fault) {
        int classes = x.count(0);
        Due.is("acts " + text, Due.acts(x, text), -100 - fault);
        Due.is("tape", x.count(3), 0);
        Due.is("classes", x.count(0), classes);
    }

    private static void actFaults() {
        BlownSpaces x = new BlownSpaces();
        Due.read(x, "a");
        x.set(0, 0, 1);
        actFaultIs(x, "", 0);
        actFaultIs(x, "a", 0);
        actFaultIs(x, "sums 0 0", 0);
        actFaultIs(x, "su", 0);
        actFaultIs(x, "Sum 0 0", 0);
        actFaultIs(x, " sum 0 0", 0);
        actFaultIs(x, "sum", 3);
        actFaultIs(x, "sum0 0", 3);
        actFaultIs(x, "sum;", 3);
        actFaultIs(x, "sumz 0 0", 0);
        actFaultIs(x, "suma 0 0", 0);
        actFaultIs(x, "sum{0 0", 3);
        actFaultIs(x, "sum`0 0", 3);
        actFaultIs(x, "sum 0 0;part{", 12);
        actFaultIs(x, "sum / 0", 4);
        actFaultIs(x, "sum : 0", 4);
        actFaultIs(x, "sum ", 4);
        actFaultIs(x, "sum  0 0", 4);
        actFaultIs(x, "sum a 0", 4);
        actFaultIs(x, "sum -1 0", 4);
        actFaultIs(x, "sum 0", 5);
        actFaultIs(x, "sum 00 0", 5);
        actFaultIs(x, "sum 0;0", 5);
        actFaultIs(x, "sum 0 ", 6);
        actFaultIs(x, "sum 0 ;", 6);
        actFaultIs(x, "sum 0 00", 7);
        actFaultIs(x, "sum 0 0 ", 7);
        actFaultIs(x, "sum 0 0,", 7);
        actFaultIs(x, "sum 0 0;", 8);
        actFaultIs(x, "sum 0 0;;", 8);
        actFaultIs(x, "sum 0 0; sum 0 0", 8);
        actFaultIs(x, "sum 0 0;times 0 0;minus 0 0;power 0 0;part 0 0;parts 0 0", 47);
        actFaultIs(x, "sum 9 9;powe 0 0", 8);
        Due.is("changes stay", x.count(1), 1);
    }

    private static void cannotBe(BlownSpaces x, String text, int ahead) {
        int classes = x.count(0);
        Due.is("acts " + text, Due.acts(x, text), -200 - ahead);
        Due.is("tape", x.count(3), 0);
        Due.is("classes", x.count(0), classes);
    }

    private static void actsThatCannotBe() {
        BlownSpaces x = new BlownSpaces();
        cannotBe(x, "power 0 0", 0);
        Due.read(x, "a");
        x.set(0, 0, 1);
        cannotBe(x, "sum 0 1", 0);
        cannotBe(x, "sum 1 0", 0);
        cannotBe(x, "sum 0 0;times 1 2", 1);
        cannotBe(x, "sum 0 0;times 1 1;minus 3 0", 2);
        cannotBe(x, "power 0 7", 0);
        cannotBe(x, "part 0 7", 0);
        cannotBe(x, "power 0 6;part 0 9", 1);
        cannotBe(x, "power 1 0", 0);
        cannotBe(x, "part 1 0", 0);
        Due.is("changes stay", x.count(1), 1);
        Due.is("seven", Due.acts(x, "sum 0 0;sum 0 0;sum 0 0;sum 0 0;sum 0 0;sum 0 0;sum 0 0"), 7);
        Due.is("eight classes", x.count(0), 8);
        cannotBe(x, "sum 0 0", 0);
        x.drop();
        cannotBe(x, "sum 0 0;sum 0 0", 1);
        Due.is("one", Due.acts(x, "part 6 6"), 1);
        x.product(2, 0, 0);
        Due.read(x, "a");
        cannotBe(x, "sum 0 0;sum 0 0;sum 0 0;sum 0 0;sum 0 0;sum 0 0;sum 0 0;sum 0 0;sum 0 0;sum 0 0", 7);
        Due.is("none of them", x.count(0), 1);
    }

    /** Promise 31. */
    private static void write() {
        BlownSpaces x = new BlownSpaces();
        Due.is("no class", x.write(0), BAD);
        x.product(2, 1, 0);
        x.blow();
        Due.read(x, "1");
        Due.written(x, 0, "1");
        x.set(0, 0, 1);
        Due.written(x, 0, "-1");
        Due.read(x, "-a^2b-ap^2+2bp-p-1");
        Due.written(x, 1, "-a^2b-ap^2+2bp-p-1");
        x.tell(1, 0, Long.MIN_VALUE);
        x.tell(1, 1, Long.MIN_VALUE);
        x.tell(1, 12, Long.MIN_VALUE);
        x.tell(1, 201, Long.MAX_VALUE);
        x.tell(1, 110, -10);
        x.tell(1, 100, 100);
        Due.written(x, 1, "-9223372036854775808a^2b+9223372036854775807ap^2-9223372036854775808a-10bp+100p"
            + "-9223372036854775808");
        Due.is("class 2", x.write(2), BAD);
        Due.is("class -1", x.write(-1), BAD);
        Due.is("paper stays", x.count(4), 99);
        x.set(1, 0, 3);
        x.set(1, 1, 5);
        Due.written(x, 1, "0");
    }

    /** Promise 32. */
    private static void paper() {
        BlownSpaces x = new BlownSpaces();
        x.product(1, 1, 1);
        Due.read(x, "0");
        for (int k = 0; k < x.space(5); k++) {
            x.tell(0, x.term(k), -1234567890123L - k);
        }
        int length = 0;
        String want = "";
        String[] powers = {"a^3", "a^2b", "a^2c", "a^2", "ab^2", "abc", "ab", "ac^2", "ac", "a", "b^3", "b^2c", "b^2",
            "bc^2", "bc", "b", "c^3", "c^2", "c", ""};
        for (int k = 0; k < powers.length; k++) {
            want += "-" + (1234567890123L + k) + powers[k];
        }
        Due.is("all bytes", x.write(0), want.length());
        Due.is("more than 200", want.length() > 200 ? 1 : 0, 1);
        Due.is("first 200", Due.paper(x).equals(want.substring(0, 200)) ? 1 : 0, 1);
        Due.is("count", x.count(4), 200);
        Due.is("byte 199", x.paper(199), want.charAt(199));
        Due.is("byte 200", x.paper(200), NOT);
        Due.is("byte -1", x.paper(-1), NOT);
        Due.is("far", x.paper(Integer.MAX_VALUE), NOT);
        Due.is("far", x.paper(Integer.MIN_VALUE), NOT);
        Due.read(x, "a");
        Due.is("write", x.write(1), 1);
        Due.is("byte 0", x.paper(0), 'a');
        Due.is("byte 1", x.paper(1), NOT);
        x.conics();
        Due.is("the paper stays", x.paper(0), 'a');
        Due.is("length", length, 0);
    }
}
