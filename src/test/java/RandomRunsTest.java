import java.util.ArrayList;
import java.util.List;
import java.util.Random;

/** Runs of calls drawn with fixed seeds, each call held against PlainSpaces. */
public final class RandomRunsTest {
    private static final int RUNS = 2500;
    /** The last step may ask for some two hundred calls more: 512 are never passed. */
    private static final int CALLS = 290;
    private static final long[] LONGS = {0, 1, -1, 2, 3, -7, 99, 100, 4294967296L, 4294967297L, Long.MIN_VALUE, Long.MAX_VALUE};
    private static final int[] EDGES = {-1, Integer.MIN_VALUE, Integer.MAX_VALUE, -2, 21, 100, 65536};

    private final Random random;
    private final int run;
    private final BlownSpaces x = new BlownSpaces();
    private final PlainSpaces y = new PlainSpaces();
    private final List<String> calls = new ArrayList<>();
    private boolean right = true;

    private RandomRunsTest(int run) {
        this.run = run;
        this.random = new Random(20261119L * 31L + run);
    }

    public static void main(String[] args) {
        int runs = args.length > 0 ? Integer.parseInt(args[0]) : RUNS;
        int wrong = 0;
        for (int run = 0; run < runs && wrong < 3; run++) {
            RandomRunsTest one = new RandomRunsTest(run);
            one.go();
            wrong += one.right ? 0 : 1;
        }
        Due.end("RandomRunsTest");
    }

    private void go() {
        while (right && calls.size() < CALLS) {
            step();
        }
    }

    private void same(String call, long got, long want) {
        calls.add(call + " = " + got);
        if (got != want && right) {
            right = false;
            int from = Math.max(0, calls.size() - 60);
            System.out.println("run " + run + ": .. " + String.join("; ", calls.subList(from, calls.size())));
            Due.is("run " + run + ": " + call, got, want);
        } else if (right) {
            Due.is(call, got, want);
        }
    }

    private int below(int m) {
        return random.nextInt(m);
    }

    /** Mostly within 0 .. m - 1, now and then beyond. */
    private int near(int m) {
        int draw = below(20);
        if (draw == 0) {
            return EDGES[below(EDGES.length)];
        }
        return draw == 1 ? m : below(Math.max(1, m));
    }

    private int one() {
        return near(y.count(0));
    }

    private int code() {
        int draw = below(20);
        if (draw == 0) {
            return EDGES[below(EDGES.length)];
        }
        return draw == 1 ? below(1000000) : y.term(below(y.space(5)));
    }

    private long value() {
        return below(3) == 0 ? LONGS[below(LONGS.length)] : below(5) == 0 ? random.nextLong() : below(21) - 10;
    }

    private void step() {
        int draw = below(100);
        if (draw < 16) {
            readSome();
        } else if (draw < 22) {
            actSome();
        } else if (draw < 26) {
            spaceSome(below(run % 3 == 0 ? 6 : 30));
        } else if (draw < 42) {
            classSome();
        } else if (draw < 60) {
            meetSome();
        } else if (draw < 72) {
            listSome();
        } else if (draw < 80) {
            curveSome();
        } else if (draw < 84) {
            writeSome();
        } else {
            otherSome();
        }
    }

    private void spaceSome(int which) {
        switch (which) {
            case 0: {
                int a = 1 + near(5);
                int b = below(3) == 0 ? 0 : 1 + near(3);
                int c = below(3) == 0 ? 0 : 1 + near(2);
                same("product(" + a + ", " + b + ", " + c + ")", x.product(a, b, c), y.product(a, b, c));
                break;
            }
            case 1:
                same("curved()", x.curved(), y.curved());
                break;
            case 2:
                same("conics()", x.conics(), y.conics());
                break;
            case 3: case 4: case 5: case 6: {
                int d = 1 + near(9);
                int g = near(10);
                same("curve(" + d + ", " + g + ")", x.curve(d, g), y.curve(d, g));
                same("blow()", x.blow(), y.blow());
                break;
            }
            default: {
                int what = near(6);
                int k = below(3) == 0 ? near(y.space(5)) : below(y.space(5));
                int code = code();
                same("space(" + what + ")", x.space(what), y.space(what));
                same("term(" + k + ")", x.term(k), y.term(k));
                same("worth(" + code + ")", x.worth(code), y.worth(code));
                same("chern(" + code + ")", x.chern(code), y.chern(code));
            }
        }
    }

    private void classSome() {
        int one = one();
        int what = below(12) == 0 ? near(2) : below(2);
        int code = code();
        switch (below(9)) {
            case 0: case 1: case 2: {
                int v = near(what == 0 ? 6 : below(2) == 0 ? 10 : 4);
                same("set(" + one + ", " + what + ", " + v + ")", x.set(one, what, v), y.set(one, what, v));
                break;
            }
            case 3: case 4: {
                long v = value();
                same("tell(" + one + ", " + code + ", " + v + ")", x.tell(one, code, v), y.tell(one, code, v));
                break;
            }
            case 5: {
                int asked = near(5);
                same("of(" + one + ", " + asked + ")", x.of(one, asked), y.of(one, asked));
                break;
            }
            case 6:
                same("number(" + one + ", " + code + ")", x.number(one, code), y.number(one, code));
                break;
            case 7:
                if (below(2) == 0) {
                    same("drop()", x.drop(), y.drop());
                }
                break;
            default:
                if (below(2) == 0) {
                    same("canonical()", x.canonical(), y.canonical());
                }
        }
    }

    private void meetSome() {
        int one = one();
        int other = one();
        int list = near(3);
        switch (below(7)) {
            case 0:
                same("met(" + one + ")", x.met(one), y.met(one));
                break;
            case 1:
                same("meets(" + one + ", " + other + ")", x.meets(one, other), y.meets(one, other));
                break;
            case 2:
                same("meetsAll(" + list + ")", x.meetsAll(list), y.meetsAll(list));
                break;
            case 3: {
                int k = near(7);
                same("self(" + one + ", " + k + ")", x.self(one, k), y.self(one, k));
                break;
            }
            case 4:
                if (y.space(5) < 150 || below(10) == 0) {
                    same("like(" + one + ", " + other + ")", x.like(one, other), y.like(one, other));
                }
                break;
            case 5:
                cutSome(list);
                break;
            default: {
                int n = below(4) == 0 ? near(51) : 1 + below(3);
                int z = below(2) == 0 ? random.nextInt() : below(100);
                for (int what = 0; what < 2 && (n < 4 || y.space(5) < 60); what++) {
                    same("lots(" + n + ", " + z + ", " + what + ")", x.lots(n, z, what), y.lots(n, z, what));
                }
            }
        }
    }

    /** Often CLASSES of SIZE 1 alone, so that something is CUT OUT. */
    private void cutSome(int list) {
        if (below(2) == 0 && y.count(0) > 0) {
            int klass = below(y.count(0));
            same("set", x.set(klass, 1, 1), y.set(klass, 1, 1));
            same("set", x.set(klass, 0, 3), y.set(klass, 0, 3));
            int n = below(y.space(1) + 1);
            same("list", x.list(2, 1, n), y.list(2, 1, n));
            for (int k = 0; k < n; k++) {
                same("put", x.put(2, k, klass), y.put(2, k, klass));
            }
            list = 2;
        }
        for (int what = 0; what < 4; what++) {
            same("cutOut(" + list + ", " + what + ")", x.cutOut(list, what), y.cutOut(list, what));
        }
        int asked = near(4);
        same("cutOut(" + list + ", " + asked + ")", x.cutOut(list, asked), y.cutOut(list, asked));
    }

    private void listSome() {
        int list = below(15) == 0 ? near(3) : below(3);
        int i = near(6);
        switch (below(6)) {
            case 0: {
                int sort = below(10) == 0 ? near(2) - 1 : below(2);
                int n = below(3) == 0 ? near(21) : below(6);
                same("list(" + list + ", " + sort + ", " + n + ")", x.list(list, sort, n), y.list(list, sort, n));
                break;
            }
            case 1: case 2: case 3: {
                long v = below(3) == 0 ? value() : below(Math.max(1, y.count(0)));
                same("put(" + list + ", " + i + ", " + v + ")", x.put(list, i, v), y.put(list, i, v));
                break;
            }
            case 4:
                same("get(" + list + ", " + i + ")", x.get(list, i), y.get(list, i));
                break;
            default: {
                int other = below(15) == 0 ? near(3) : below(3);
                int j = near(5);
                int n = near(4);
                same("copy(" + list + ", " + i + ", " + other + ", " + j + ", " + n + ")",
                    x.copy(list, i, other, j, n), y.copy(list, i, other, j, n));
            }
        }
    }

    private void curveSome() {
        int list = below(3) == 0 ? near(3) : -1;
        switch (below(4)) {
            case 0: {
                int i = below(4) == 0 ? near(6) : below(6);
                int j = below(4) == 0 ? near(6) : 5 - i;
                same("through(" + i + ", " + j + ", " + list + ")", x.through(i, j, list), y.through(i, j, list));
                break;
            }
            case 1: {
                int many = below(6);
                same("list", x.list(1, 1, 2 * many), y.list(1, 1, 2 * many));
                for (int k = 0; k < 2 * many; k++) {
                    long v = below(30) == 0 ? value() : below(100);
                    same("put " + v, x.put(1, k, v), y.put(1, k, v));
                }
                int i = below(6 - many);
                same("through(.., 1)", x.through(i, 5 - many - i, 1), y.through(i, 5 - many - i, 1));
                break;
            }
            case 2: {
                int one = one();
                int curve = near(y.space(4));
                int what = below(10) == 0 ? near(2) : below(2);
                long v = below(3) == 0 || y.met(one) == BlownSpaces.VOID ? value() : y.met(one) + below(30) - 15;
                same("fits(" + one + ", " + curve + ", " + v + ", " + what + ")",
                    x.fits(one, curve, v, what), y.fits(one, curve, v, what));
                break;
            }
            default: {
                int judged = below(4) == 0 ? near(3) : 0;
                int n = Math.max(0, y.count(0) + below(3) - 1);
                same("list", x.list(0, 1, n), y.list(0, 1, n));
                for (int k = 0; k < n; k++) {
                    long v = below(10) == 0 ? 1 : y.met(k);
                    same("put " + v, x.put(0, k, v), y.put(0, k, v));
                }
                same("judge(" + judged + ")", x.judge(judged), y.judge(judged));
            }
        }
    }

    private void feedAll(String text) {
        for (int k = 0; k < text.length(); k++) {
            int sign = text.charAt(k);
            same("feed(" + (char) sign + ")", x.feed(sign), y.feed(sign));
        }
    }

    private String member() {
        String signs = y.signs();
        StringBuilder text = new StringBuilder();
        if (below(2) == 0) {
            text.append(below(below(3) == 0 ? 20000 : 12));
        }
        int left = y.space(1);
        for (int k = 0; k < signs.length(); k++) {
            int power = below(2) == 0 ? 0 : below(left + 1 + (below(30) == 0 ? 1 : 0));
            left -= power;
            if (power > 0) {
                text.append(signs.charAt(k));
                if (power > 1 || below(4) == 0) {
                    text.append("^").append(power);
                }
            }
            left = Math.max(0, left);
        }
        return text.length() == 0 && below(20) > 0 ? "1" : text.toString();
    }

    /** Now and then a sign of it is another one, or falls away. */
    private String spoilt(String text) {
        if (text.isEmpty() || below(4) > 0) {
            return text;
        }
        int at = below(text.length());
        String more = "abcpqruvw^^0123456789+-; summes".charAt(below(31)) + "";
        switch (below(4)) {
            case 0: return text.substring(0, at) + more + text.substring(at + 1);
            case 1: return text.substring(0, at) + text.substring(at + 1);
            case 2: return text.substring(0, at) + more + text.substring(at);
            default: return text.substring(0, at);
        }
    }

    private void readSome() {
        StringBuilder text = new StringBuilder(below(4) == 0 ? "-" : "");
        int members = 1 + below(below(5) == 0 ? 12 : 4);
        for (int k = 0; k < members; k++) {
            text.append(k == 0 ? "" : below(2) == 0 ? "+" : "-").append(member());
        }
        feedAll(spoilt(text.toString()));
        same("read()", x.read(), y.read());
    }

    private void actSome() {
        String[] words = PlainSpaces.words().toArray(new String[0]);
        StringBuilder text = new StringBuilder();
        int many = 1 + below(below(6) == 0 ? 10 : 2);
        for (int k = 0; k < many; k++) {
            text.append(k == 0 ? "" : ";").append(words[below(words.length)]);
            int first = below(Math.min(10, y.count(0) + k + (below(8) == 0 ? 2 : 1)));
            int second = below(Math.min(10, y.count(0) + k + (below(8) == 0 ? 2 : 1)));
            text.append(" ").append(below(3) == 0 ? first : 0).append(" ").append(below(3) == 0 ? second : below(3));
        }
        feedAll(spoilt(text.toString()));
        same("acts()", x.acts(), y.acts());
    }

    private void writeSome() {
        int one = one();
        same("write(" + one + ")", x.write(one), y.write(one));
        if (below(6) == 0) {
            for (int k = -1; k <= y.count(4); k++) {
                same("paper(" + k + ")", x.paper(k), y.paper(k));
            }
        } else {
            int k = near(y.count(4));
            same("paper(" + k + ")", x.paper(k), y.paper(k));
        }
    }

    private void otherSome() {
        int one = one();
        switch (below(11)) {
            case 0: case 1: {
                int act = below(10) == 0 ? near(3) : below(3);
                int v = below(2) == 0 ? random.nextInt() : below(100) - 50;
                same("act(" + one + ", " + act + ", " + v + ")", x.act(one, act, v), y.act(one, act, v));
                for (int k = 0; k < 8; k++) {
                    same("trace(" + k + ")", x.trace(k), y.trace(k));
                }
                break;
            }
            case 2: {
                int k = near(6);
                same("taken(" + one + ", " + k + ")", x.taken(one, k), y.taken(one, k));
                break;
            }
            case 3: case 4:
                same("undo()", x.undo(), y.undo());
                break;
            case 5: case 6:
                same("redo()", x.redo(), y.redo());
                break;
            case 7:
                same("image()", x.image(), y.image());
                break;
            case 8:
                same("alike()", x.alike(), y.alike());
                break;
            case 9:
                if (below(3) == 0) {
                    same("back()", x.back(), y.back());
                } else {
                    int sign = below(3) == 0 ? near(127) : 32 + below(95);
                    same("feed(" + sign + ")", x.feed(sign), y.feed(sign));
                    same("wipe()", x.wipe(), y.wipe());
                }
                break;
            default: {
                int what = near(6);
                same("count(" + what + ")", x.count(what), y.count(what));
            }
        }
    }
}
