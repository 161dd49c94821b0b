/** Counts what answered as is due and what did not, and feeds THE TAPE for the tests. */
final class Due {
    private static int right = 0;
    private static int wrong = 0;

    private Due() {
    }

    static void is(String call, long got, long want) {
        if (got == want) {
            right++;
        } else {
            wrong++;
            System.out.println(call + " answered " + got + ", due is " + want);
        }
    }

    /** Feeds a text to THE TAPE, which is empty before. */
    static void tape(BlownSpaces x, String text) {
        for (int k = 0; k < text.length(); k++) {
            is("feed of " + text, x.feed(text.charAt(k)), k + 1L);
        }
    }

    static int read(BlownSpaces x, String text) {
        tape(x, text);
        return x.read();
    }

    static int acts(BlownSpaces x, String text) {
        tape(x, text);
        return x.acts();
    }

    /** What stands on THE PAPER. */
    static String paper(BlownSpaces x) {
        StringBuilder text = new StringBuilder();
        for (int k = 0; x.paper(k) != BlownSpaces.NOT; k++) {
            text.append((char) x.paper(k));
        }
        return text.toString();
    }

    static void written(BlownSpaces x, int one, String want) {
        is("write of " + want, x.write(one), want.length());
        String got = paper(x);
        is("paper " + got + " as " + want, got.equals(want) ? 1 : 0, 1);
    }

    /** A LIST of a sort with these numbers. */
    static void list(BlownSpaces x, int list, int sort, long... numbers) {
        is("list", x.list(list, sort, numbers.length), 1);
        for (int k = 0; k < numbers.length; k++) {
            is("put", x.put(list, k, numbers[k]), 1);
        }
    }

    /** Ends the program, with 1 if anything was not as is due. */
    static void end(String test) {
        System.out.println(test + ": " + right + " answers as due, " + wrong + " not");
        System.exit(wrong == 0 && right > 0 ? 0 : 1);
    }
}
