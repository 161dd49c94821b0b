/** Counts what answered as is due and what did not, and feeds THE TAPE for the tests. */
final class Due {
    private static int right = 0;
    private static int wrong = 0;
    private static String test = "";

    private Due() {
    }

    /** What the test is called that goes on from here: it is told with what is wrong. */
    static void test(String name) {
        test = name.isEmpty() ? "" : name + ": ";
    }

    static int looked() {
        return right + wrong;
    }

    static void is(String call, long got, long want) {
        if (got == want) {
            right++;
        } else {
            wrong++;
            System.out.println(test + call + " answered " + got + ", due is " + want);
        }
    }

    static void yes(String what, boolean holds) {
        is(what, holds ? 1 : 0, 1);
    }

    static void same(String what, String got, String want) {
        int at = 0;
        while (at < got.length() && at < want.length() && got.charAt(at) == want.charAt(at)) {
            at++;
        }
        int from = Math.max(0, at - 40);
        yes(what + " .. " + got.substring(from, Math.min(got.length(), at + 40)) + " .. due is .. "
            + want.substring(from, Math.min(want.length(), at + 40)), got.equals(want));
    }

    /** Feeds a text to THE TAPE, which is empty before. */
    static void tape(BlownSpaces x, String text) {
        for (int k = 0; k < text.length(); k++) {
            is("feed of " + text, x.feed(text.charAt(k)), k + 1L);
        }
    }

    static int read(BlownSpaces x, String text) {
        tape(x, text);
        return x.read();
    }

    static int acts(BlownSpaces x, String text) {
        tape(x, text);
        return x.acts();
    }

    /** What stands on THE PAPER. */
    static String paper(BlownSpaces x) {
        StringBuilder text = new StringBuilder();
        for (int k = 0; x.paper(k) != BlownSpaces.NOT; k++) {
            text.append((char) x.paper(k));
        }
        return text.toString();
    }

    static void written(BlownSpaces x, int one, String want) {
        is("write of " + want, x.write(one), want.length());
        String got = paper(x);
        is("paper " + got + " as " + want, got.equals(want) ? 1 : 0, 1);
    }

    /** A LIST of a sort with these numbers. */
    static void list(BlownSpaces x, int list, int sort, long... numbers) {
        is("list", x.list(list, sort, numbers.length), 1);
        for (int k = 0; k < numbers.length; k++) {
            is("put", x.put(list, k, numbers[k]), 1);
        }
    }

    /** Ends the program, with 1 if anything was not as is due. */
    static void end(String name) {
        System.out.println(name + ": " + right + " answers as due, " + wrong + " not");
        System.exit(wrong == 0 && right > 0 ? 0 : 1);
    }
}
