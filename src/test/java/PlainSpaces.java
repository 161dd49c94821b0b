import java.util.ArrayList;
import java.util.List;
import java.util.Map;
import java.util.TreeMap;
import java.util.TreeSet;

/**
 * The document told once more, in the plainest way and with the Java library, to hold BlownSpaces against:
 * sums are maps from CODES to numbers, TERMS are looked for among all codes, FAULTS are looked for by asking
 * of each beginning of a text whether a text begins like that.
 */
final class PlainSpaces {
    static final int BAD = -1, NOT = -2, FULL = -3, STATE = -5;
    static final long VOID = Long.MIN_VALUE, GONE = Long.MIN_VALUE + 1L;
    private static final String[] WORDS = {"sum", "times", "minus", "power", "part"};
    private static final Map<String, List<Integer>> TERMS = new TreeMap<>();
    private static final Map<String, TreeMap<String, Integer>> POWERS = new TreeMap<>();

    private static final class One {
        int kind;
        int figure;
        Map<Integer, Long> told = new TreeMap<>();

        One copied() {
            One other = new One();
            other.kind = kind;
            other.figure = figure;
            other.told = new TreeMap<>(told);
            return other;
        }

        String all() {
            Map<Integer, Long> shown = new TreeMap<>(told);
            shown.values().removeIf(v -> v == 0L);
            return kind + " " + figure + " " + shown;
        }
    }

    private static final class Whole {
        int sort = 0;
        List<Integer> dims = new ArrayList<>(List.of(2));
        int points = 0;
        List<int[]> curves = new ArrayList<>();
        List<One> classes = new ArrayList<>();

        Whole copied() {
            Whole other = new Whole();
            other.sort = sort;
            other.dims = new ArrayList<>(dims);
            other.points = points;
            other.curves = new ArrayList<>(curves);
            for (One one : classes) {
                other.classes.add(one.copied());
            }
            return other;
        }

        String all() {
            StringBuilder text = new StringBuilder(sort + " " + dims + " " + points);
            for (int[] curve : curves) {
                text.append(" curve ").append(curve[0]).append(" ").append(curve[1]);
            }
            for (One one : classes) {
                text.append(" class ").append(one.all());
            }
            return text.toString();
        }
    }

    private Whole w = new Whole();
    private Whole image = null;
    private final List<int[]> done = new ArrayList<>();
    private final List<int[]> undone = new ArrayList<>();
    private String tape = "";
    private String paper = "";
    private final long[][] lists = new long[3][];
    private final int[] sorts = {-1, -1, -1};
    private List<Integer> trace = new ArrayList<>();

    // ---- spaces

    private int n() {
        return w.sort == 0 ? w.dims.stream().mapToInt(d -> d).sum() : w.sort == 1 ? 3 : 5;
    }

    private String letters() {
        switch (w.sort) {
            case 0: return "abc".substring(0, w.dims.size()) + "pqr".substring(0, w.points);
            case 1: return "a" + "uvw".substring(0, w.curves.size());
            default: return "av";
        }
    }

    private static int power(int code, int letter) {
        for (int k = 0; k < letter; k++) {
            code /= 10;
        }
        return code % 10;
    }

    private static int size(int code) {
        return String.valueOf(code).chars().map(c -> c - '0').sum();
    }

    private static int unit(int letter) {
        return (int) Math.round(Math.pow(10, letter));
    }

    private List<Integer> terms() {
        String letters = letters();
        int n = n();
        return TERMS.computeIfAbsent(letters.length() + " " + n, key -> {
            List<Integer> all = new ArrayList<>();
            for (int code = 0; code < unit(letters.length()); code++) {
                if (size(code) <= n) {
                    all.add(code);
                }
            }
            all.sort((one, other) -> {
                for (int k = 0; k < letters.length(); k++) {
                    if (power(one, k) != power(other, k)) {
                        return power(other, k) - power(one, k);
                    }
                }
                return 0;
            });
            return all;
        });
    }

    private boolean isTerm(int code) {
        return code >= 0 && code < unit(letters().length()) && size(code) <= n();
    }

    private int anew(int sort, List<Integer> dims) {
        w = new Whole();
        w.sort = sort;
        w.dims = dims;
        forget();
        return n();
    }

    private void forget() {
        done.clear();
        undone.clear();
    }

    int product(int a, int b, int c) {
        List<Integer> dims = new ArrayList<>();
        dims.add(a);
        if (b != 0) {
            dims.add(b);
            if (c != 0) {
                dims.add(c);
            }
        }
        long together = 0;
        for (int d : dims) {
            if (d < 1 || d > 5) {
                return BAD;
            }
            together += d;
        }
        return together > 5 ? BAD : anew(0, dims);
    }

    int blow() {
        if (w.sort != 0) {
            return STATE;
        }
        if (w.points == 3) {
            return FULL;
        }
        forget();
        return ++w.points;
    }

    int curved() {
        return anew(1, new ArrayList<>());
    }

    int curve(int d, int g) {
        if (w.sort != 1) {
            return STATE;
        }
        if (d < 1 || d > 9 || g < 0 || g > 9) {
            return BAD;
        }
        if (w.curves.size() == 3) {
            return FULL;
        }
        forget();
        w.curves.add(new int[] {d, g});
        return w.curves.size() - 1;
    }

    int conics() {
        return anew(2, new ArrayList<>());
    }

    int space(int what) {
        switch (what) {
            case 0: return w.sort;
            case 1: return n();
            case 2: return letters().length();
            case 3: return euler();
            case 4: return w.points + w.curves.size();
            case 5: return terms().size();
            default: return BAD;
        }
    }

    private int euler() {
        if (w.sort == 2) {
            return 12;
        }
        int e = w.sort == 1 ? 4 : 1;
        for (int d : w.dims) {
            e *= w.sort == 0 ? d + 1 : 1;
        }
        for (int[] curve : w.curves) {
            e += 2 - 2 * curve[1];
        }
        return e + w.points * (n() - 1);
    }

    long worth(int code) {
        return isTerm(code) ? worthOf(code) : VOID;
    }

    private String poweredText(int code) {
        StringBuilder text = new StringBuilder();
        for (int k = 0; k < letters().length(); k++) {
            if (power(code, k) > 0) {
                text.append(letters().charAt(k)).append(power(code, k));
            }
        }
        return text.toString();
    }

    private long worthOf(int code) {
        if (size(code) != n()) {
            return 0;
        }
        String text = poweredText(code);
        if (w.sort == 2) {
            return text.equals("a5") ? 1 : text.equals("a2v3") ? 4 : text.equals("a1v4") ? 18 : text.equals("v5") ? 51 : 0;
        }
        if (w.sort == 1) {
            for (int k = 0; k < w.curves.size(); k++) {
                String letter = "uvw".substring(k, k + 1);
                int[] curve = w.curves.get(k);
                if (text.equals("a1" + letter + "2")) {
                    return -curve[0];
                }
                if (text.equals(letter + "3")) {
                    return 2 - 2 * curve[1] - 4 * curve[0];
                }
            }
            return text.equals("a3") ? 1 : 0;
        }
        StringBuilder whole = new StringBuilder();
        for (int k = 0; k < w.dims.size(); k++) {
            whole.append("abc".charAt(k)).append(w.dims.get(k));
        }
        boolean point = text.length() == 2 && "pqr".indexOf(text.charAt(0)) >= 0;
        return text.contentEquals(whole) ? 1 : !point ? 0 : n() % 2 == 1 ? 1 : -1;
    }

    int term(int k) {
        return k < 0 ? BAD : k >= terms().size() ? NOT : terms().get(k);
    }

    // ---- classes

    private boolean has(long one) {
        return one >= 0 && one < w.classes.size();
    }

    int set(int one, int what, int v) {
        if (!has(one) || what != 0 && what != 1 || v < 0 || v > (what == 0 ? 5 : 9)) {
            return BAD;
        }
        One klass = w.classes.get(one);
        int was = what == 0 ? klass.kind : klass.figure;
        if (was != v) {
            make(one, what, v);
            undone.clear();
            done.add(new int[] {one, what, was, v});
            if (done.size() > 12) {
                done.remove(0);
            }
        }
        return was;
    }

    private void make(int one, int what, int v) {
        if (what == 0) {
            w.classes.get(one).kind = v;
        } else {
            w.classes.get(one).figure = v;
        }
    }

    int tell(int one, int code, long v) {
        if (!has(one) || !isTerm(code)) {
            return BAD;
        }
        w.classes.get(one).told.put(code, v);
        return 1;
    }

    int of(int one, int what) {
        if (!has(one) || what < 0 || what > 4) {
            return BAD;
        }
        Map<Integer, Long> row = row(w.classes.get(one));
        switch (what) {
            case 0: return w.classes.get(one).kind;
            case 1: return w.classes.get(one).figure;
            case 2: return row.size();
            case 3: return row.keySet().stream().mapToInt(PlainSpaces::size).max().orElse(NOT);
            default: return row.keySet().stream().mapToInt(PlainSpaces::size).min().orElse(NOT);
        }
    }

    private long numberBy(int kind, One one, int code) {
        switch (kind) {
            case 0: return one.told.getOrDefault(code, 0L);
            case 1: return 0 - numberBy(0, one, code);
            case 2: return numberBy(0, one, code) * (one.figure + 1);
            case 3: return size(code) == one.figure ? numberBy(0, one, code) : 0;
            case 4: return poweredText(code).matches("[abc0-9]*") ? numberBy(2, one, code) : 0;
            default: return numberBy(size(code) % 2 == 1 ? 1 : 0, one, code);
        }
    }

    /** The NUMBERS of a CLASS that aren't 0. */
    private Map<Integer, Long> row(One one) {
        Map<Integer, Long> row = new TreeMap<>();
        for (int code : one.told.keySet()) {
            row.put(code, numberBy(one.kind, one, code));
        }
        return tidy(row);
    }

    private static Map<Integer, Long> tidy(Map<Integer, Long> row) {
        row.values().removeIf(v -> v == 0L);
        return row;
    }

    long number(int one, int code) {
        return !has(one) || !isTerm(code) ? VOID : numberBy(w.classes.get(one).kind, w.classes.get(one), code);
    }

    int drop() {
        if (w.classes.isEmpty()) {
            return STATE;
        }
        w.classes.remove(w.classes.size() - 1);
        forget();
        return w.classes.size();
    }

    private int bring(Map<Integer, Long> told) {
        One one = new One();
        one.told = new TreeMap<>(told);
        w.classes.add(one);
        return w.classes.size() - 1;
    }

    private Map<Integer, Long> canonicalRow() {
        Map<Integer, Long> row = new TreeMap<>();
        String letters = letters();
        for (int k = 0; k < letters.length(); k++) {
            boolean factor = "abc".indexOf(letters.charAt(k)) >= 0;
            long v;
            if (w.sort == 0) {
                v = factor ? -(w.dims.get(k) + 1) : n() - 1;
            } else if (w.sort == 1) {
                v = factor ? -4 : 1;
            } else {
                v = factor ? -6 : 2;
            }
            row.put(unit(k), v);
        }
        return row;
    }

    int canonical() {
        if (w.classes.size() == 8) {
            return FULL;
        }
        forget();
        return bring(canonicalRow());
    }

    // ---- what is met

    private Map<Integer, Long> times(Map<Integer, Long> one, Map<Integer, Long> other) {
        Map<Integer, Long> all = new TreeMap<>();
        one.forEach((a, x) -> other.forEach((b, y) -> {
            if (size(a) + size(b) <= n()) {
                all.merge(a + b, x * y, Long::sum);
            }
        }));
        return tidy(all);
    }

    private static Map<Integer, Long> plus(Map<Integer, Long> one, Map<Integer, Long> other, long factor) {
        Map<Integer, Long> all = new TreeMap<>(one);
        other.forEach((code, v) -> all.merge(code, v * factor, Long::sum));
        return tidy(all);
    }

    private static Map<Integer, Long> just(long v) {
        Map<Integer, Long> row = new TreeMap<>();
        row.put(0, v);
        return row;
    }

    private long metOf(Map<Integer, Long> row) {
        long together = 0;
        for (Map.Entry<Integer, Long> entry : row.entrySet()) {
            together += entry.getValue() * worthOf(entry.getKey());
        }
        return together;
    }

    long met(int one) {
        return has(one) ? metOf(row(w.classes.get(one))) : VOID;
    }

    long meets(int one, int other) {
        return has(one) && has(other) ? metOf(times(row(w.classes.get(one)), row(w.classes.get(other)))) : VOID;
    }

    private boolean isThere(int list) {
        return list >= 0 && list < 3 && sorts[list] >= 0;
    }

    private Map<Integer, Long> timesAll(int list) {
        Map<Integer, Long> all = just(1);
        for (long one : lists[list]) {
            if (!has(one)) {
                return null;
            }
            all = times(all, row(w.classes.get((int) one)));
        }
        return all;
    }

    long meetsAll(int list) {
        if (!isThere(list)) {
            return VOID;
        }
        Map<Integer, Long> all = timesAll(list);
        return all == null ? GONE : metOf(all);
    }

    private Map<Integer, Long> power(Map<Integer, Long> row, int k) {
        return k == 0 ? just(1) : times(power(row, k - 1), row);
    }

    long self(int one, int k) {
        return has(one) && k >= 0 && k <= 6 ? metOf(power(row(w.classes.get(one)), k)) : VOID;
    }

    int like(int one, int other) {
        if (!has(one) || !has(other)) {
            return BAD;
        }
        for (int code : terms()) {
            Map<Integer, Long> single = new TreeMap<>();
            single.put(code, 1L);
            if (metOf(times(single, row(w.classes.get(one)))) != metOf(times(single, row(w.classes.get(other))))) {
                return 0;
            }
        }
        return 1;
    }

    private boolean isBare() {
        return w.sort == 0 && w.points == 0;
    }

    private Map<Integer, Long> chernRow() {
        Map<Integer, Long> row = just(1);
        for (int k = 0; k < w.dims.size(); k++) {
            Map<Integer, Long> one = just(1);
            one.put(unit(k), 1L);
            for (int times = 0; times < w.dims.get(k) + 1; times++) {
                row = times(row, one);
            }
        }
        return row;
    }

    long chern(int code) {
        return !isTerm(code) ? VOID : !isBare() ? GONE : chernRow().getOrDefault(code, 0L);
    }

    long cutOut(int list, int what) {
        if (what < 0 || what > 3 || !isThere(list)) {
            return VOID;
        }
        if (!isBare() || lists[list].length > n() || timesAll(list) == null) {
            return GONE;
        }
        int depth = n() - lists[list].length;
        Map<Integer, Long> chern = chernRow();
        for (long one : lists[list]) {
            Map<Integer, Long> row = row(w.classes.get((int) one));
            if (row.keySet().stream().anyMatch(code -> size(code) != 1)) {
                return GONE;
            }
            Map<Integer, Long> turned = just(0);
            for (int k = 0; k <= n(); k++) {
                turned = plus(turned, power(row, k), k % 2 == 0 ? 1 : -1);
            }
            chern = times(chern, turned);
        }
        chern.keySet().removeIf(code -> size(code) != depth);
        long euler = metOf(times(chern, timesAll(list)));
        switch (what) {
            case 0: return depth;
            case 1: return metOf(times(timesAll(list), power(canonicalRow(), depth)));
            case 2: return euler;
            default: return depth == 1 ? 1 - euler / 2 : GONE;
        }
    }

    // ---- conics, curves

    private Map<Integer, Long> line(long a, long v) {
        Map<Integer, Long> row = new TreeMap<>();
        row.put(1, a);
        row.put(10, v);
        return row;
    }

    long through(int i, int j, int list) {
        if (i < 0 || i > 5 || j < 0 || j > 5 || list != -1 && !isThere(list)) {
            return VOID;
        }
        long[] told = list == -1 ? new long[0] : lists[list];
        if (w.sort != 2 || told.length % 2 == 1 || i + j + told.length / 2 != 5) {
            return GONE;
        }
        Map<Integer, Long> all = times(power(line(1, 0), i), power(line(2, -1), j));
        for (int k = 0; k < told.length; k += 2) {
            if (told[k] < 0 || told[k] > 99 || told[k + 1] < 0 || told[k + 1] > 99) {
                return GONE;
            }
            all = times(all, line(told[k + 1] + 2 * told[k], -told[k]));
        }
        return metOf(all);
    }

    int fits(int one, int curve, long x, int what) {
        if (!has(one)) {
            return BAD;
        }
        if (w.sort != 1) {
            return STATE;
        }
        if (curve < 0 || curve >= w.curves.size() || what < 0 || what > 1) {
            return BAD;
        }
        int[] was = w.curves.get(curve);
        List<Integer> fitting = new ArrayList<>();
        for (int d = 1; d <= 9; d++) {
            for (int g = 0; g <= 9; g++) {
                w.curves.set(curve, new int[] {d, g});
                if (met(one) == x) {
                    fitting.add(10 * d + g);
                }
            }
        }
        w.curves.set(curve, was);
        return what == 0 ? fitting.size() : fitting.isEmpty() ? NOT : fitting.get(0);
    }

    int judge(int list) {
        if (list < 0 || list > 2) {
            return BAD;
        }
        if (!isThere(list)) {
            return -11;
        }
        for (int k = 0; k < w.classes.size(); k++) {
            if (k == lists[list].length) {
                return 100 + k;
            }
            if (met(k) != lists[list][k]) {
                return k;
            }
        }
        return -2;
    }

    long lots(int n, int z, int what) {
        if (n < 1 || n > 50 || what < 0 || what > 1) {
            return VOID;
        }
        if (w.classes.isEmpty()) {
            return GONE;
        }
        List<Map<Integer, Long>> rows = new ArrayList<>();
        for (One one : w.classes) {
            rows.add(row(one));
        }
        long together = 0;
        long zeros = 0;
        for (int lot = 0; lot < n; lot++) {
            Map<Integer, Long> all = just(1);
            for (int k = 0; k < n(); k++) {
                z = z * 1103515245 + 12345;
                long bits = z < 0 ? z + 2147483648L : z;
                all = times(all, rows.get((int) (bits / 65536 % rows.size())));
            }
            together += metOf(all);
            zeros += metOf(all) == 0 ? 1 : 0;
        }
        return what == 0 ? together : zeros;
    }

    // ---- the tape, the paper

    int feed(int letter) {
        if (letter < 32 || letter > 126) {
            return BAD;
        }
        if (tape.length() == 80) {
            return FULL;
        }
        tape += (char) letter;
        return tape.length();
    }

    int wipe() {
        int had = tape.length();
        tape = "";
        return had;
    }

    /** All POWERS that can be written, with the CODE of each. */
    private TreeMap<String, Integer> powers() {
        String letters = letters();
        return POWERS.computeIfAbsent(letters + n(), key -> {
            TreeMap<String, Integer> all = new TreeMap<>();
            all.put("", 0);
            for (int k = 0; k < letters.length(); k++) {
                TreeMap<String, Integer> longer = new TreeMap<>(all);
                for (Map.Entry<String, Integer> entry : all.entrySet()) {
                    for (int power = 1; power + size(entry.getValue()) <= n(); power++) {
                        int code = entry.getValue() + power * unit(k);
                        longer.put(entry.getKey() + letters.charAt(k) + "^" + power, code);
                        if (power == 1) {
                            longer.put(entry.getKey() + letters.charAt(k), code);
                        }
                    }
                }
                all = longer;
            }
            return all;
        });
    }

    private boolean isMember(String text) {
        String rest = text.replaceFirst("^[0-9]{1,4}", "");
        return !text.isEmpty() && powers().containsKey(rest);
    }

    private boolean beginsMember(String text) {
        String rest = text.replaceFirst("^[0-9]{1,4}", "");
        String next = powers().ceilingKey(rest);
        return next != null && next.startsWith(rest);
    }

    private boolean beginsClass(String text, boolean whole) {
        String[] members = text.replaceFirst("^-", "").split("[+-]", -1);
        for (int k = 0; k + 1 < members.length; k++) {
            if (!isMember(members[k])) {
                return false;
            }
        }
        String last = members[members.length - 1];
        return whole ? isMember(last) : beginsMember(last);
    }

    int read() {
        String text = tape;
        tape = "";
        for (int k = 1; k <= text.length(); k++) {
            if (!beginsClass(text.substring(0, k), false)) {
                return -100 - (k - 1);
            }
        }
        if (!beginsClass(text, true)) {
            return -100 - text.length();
        }
        if (w.classes.size() == 8) {
            return FULL;
        }
        Map<Integer, Long> told = new TreeMap<>();
        for (String member : text.replace("-", "+-").split("\\+")) {
            if (member.isEmpty()) {
                continue;
            }
            boolean minus = member.startsWith("-");
            String rest = minus ? member.substring(1) : member;
            String powered = rest.replaceFirst("^[0-9]*", "");
            String figures = rest.substring(0, rest.length() - powered.length());
            long v = figures.isEmpty() ? 1 : Long.parseLong(figures);
            told.merge(powers().get(powered), minus ? -v : v, Long::sum);
        }
        forget();
        return bring(told);
    }

    int acts() {
        String text = tape;
        tape = "";
        List<int[]> acts = new ArrayList<>();
        int at = 0;
        while (true) {
            String word = text.substring(at).replaceFirst("(?s)^([a-z]*).*$", "$1");
            int which = List.of(WORDS).indexOf(word);
            if (which < 0) {
                return -100 - at;
            }
            at += word.length();
            for (String due : new String[] {" ", "[0-9]", " ", "[0-9]"}) {
                if (at >= text.length() || !text.substring(at, at + 1).matches(due)) {
                    return -100 - at;
                }
                at++;
            }
            acts.add(new int[] {which, text.charAt(at - 3) - '0', text.charAt(at - 1) - '0'});
            if (at == text.length()) {
                break;
            }
            if (text.charAt(at) != ';') {
                return -100 - at;
            }
            at++;
        }
        Whole before = w.copied();
        for (int k = 0; k < acts.size(); k++) {
            if (!done(acts.get(k)[0], acts.get(k)[1], acts.get(k)[2])) {
                w = before;
                return -200 - k;
            }
        }
        forget();
        return acts.size();
    }

    private boolean done(int which, int i, int j) {
        if (w.classes.size() == 8 || !has(i) || (which < 3 ? !has(j) : j > 6)) {
            return false;
        }
        Map<Integer, Long> first = row(w.classes.get(i));
        Map<Integer, Long> made;
        switch (WORDS[which]) {
            case "sum": made = plus(first, row(w.classes.get(j)), 1); break;
            case "minus": made = plus(first, row(w.classes.get(j)), -1); break;
            case "times": made = times(first, row(w.classes.get(j))); break;
            case "power": made = power(first, j); break;
            default:
                made = new TreeMap<>(first);
                made.keySet().removeIf(code -> size(code) != j);
        }
        bring(made);
        return true;
    }

    int write(int one) {
        if (!has(one)) {
            return BAD;
        }
        Map<Integer, Long> row = row(w.classes.get(one));
        StringBuilder text = new StringBuilder();
        for (int code : terms()) {
            long v = row.getOrDefault(code, 0L);
            if (v == 0) {
                continue;
            }
            String powered = poweredText(code).replaceAll("([a-z])1", "$1").replaceAll("([a-z])([2-9])", "$1^$2");
            String number = String.valueOf(v).replace("-", "");
            text.append(v < 0 ? "-" : text.length() > 0 ? "+" : "");
            text.append(number.equals("1") && code != 0 ? "" : number).append(powered);
        }
        String all = text.length() == 0 ? "0" : text.toString();
        paper = all.substring(0, Math.min(200, all.length()));
        return all.length();
    }

    int paper(int i) {
        return i < 0 || i >= paper.length() ? NOT : paper.charAt(i);
    }

    // ---- lists

    int list(int list, int sort, int n) {
        if (list < 0 || list > 2 || sort < -1 || sort > 1 || sort >= 0 && n > 20) {
            return BAD;
        }
        if (sort >= 0 && n < 0) {
            return -14;
        }
        sorts[list] = sort;
        lists[list] = sort < 0 ? null : new long[n];
        return 1;
    }

    int put(int list, int i, long v) {
        if (list < 0 || list > 2) {
            return BAD;
        }
        if (!isThere(list)) {
            return -11;
        }
        if (i < 0 || i >= lists[list].length) {
            return -13;
        }
        lists[list][i] = sorts[list] == 0 ? (int) v : v;
        return 1;
    }

    long get(int list, int i) {
        return isThere(list) && i >= 0 && i < lists[list].length ? lists[list][i] : VOID;
    }

    int copy(int list, int i, int other, int j, int n) {
        if (list < 0 || list > 2 || other < 0 || other > 2) {
            return BAD;
        }
        if (!isThere(list) || !isThere(other)) {
            return -11;
        }
        if (sorts[list] != sorts[other]) {
            return -12;
        }
        if (n < 0 || i < 0 || j < 0 || (long) i + n > lists[list].length || (long) j + n > lists[other].length) {
            return -13;
        }
        long[] were = lists[list].clone();
        for (int k = 0; k < n; k++) {
            lists[other][j + k] = were[i + k];
        }
        return n;
    }

    // ---- acts of classes, changes, the image

    /** The bodies as Java's own classes, each under the one that the document names. */
    private class Plain {
        int i;
        int f;

        int meets(int x) {
            trace.add(10);
            return x + i;
        }

        int turns(int x) {
            trace.add(11);
            return meets(x) * 2;
        }

        int tells(int x) {
            trace.add(12);
            return turns(x) - f;
        }
    }

    private class Minus extends Plain {
        @Override
        int turns(int x) {
            trace.add(20);
            return super.turns(x) ^ 3;
        }
    }

    private class Times extends Plain {
        @Override
        int meets(int x) {
            trace.add(30);
            return -super.meets(x);
        }
    }

    private class Pulled extends Times {
        @Override
        int tells(int x) {
            trace.add(40);
            return super.tells(x + 1);
        }

        @Override
        int meets(int x) {
            trace.add(41);
            return super.meets(x) * 3;
        }
    }

    private class Part extends Plain {
        @Override
        int turns(int x) {
            trace.add(50);
            return super.turns(x) + meets(2);
        }
    }

    private class Dual extends Minus {
        @Override
        int tells(int x) {
            trace.add(60);
            return super.tells(x) ^ f;
        }
    }

    private Plain made(int one) {
        Plain[] all = {new Plain(), new Minus(), new Times(), new Part(), new Pulled(), new Dual()};
        Plain made = all[w.classes.get(one).kind];
        made.i = one;
        made.f = w.classes.get(one).figure;
        return made;
    }

    int act(int one, int act, int x) {
        if (!has(one) || act < 0 || act > 2) {
            return 0;
        }
        trace = new ArrayList<>();
        Plain made = made(one);
        return act == 0 ? made.meets(x) : act == 1 ? made.turns(x) : made.tells(x);
    }

    int trace(int i) {
        return i < 0 || i >= Math.min(24, trace.size()) ? NOT : trace.get(i);
    }

    int taken(int one, int k) {
        if (!has(one) || k < 0 || k > 5) {
            return BAD;
        }
        Class<?>[] all = {Plain.class, Minus.class, Times.class, Part.class, Pulled.class, Dual.class};
        if (!all[k].isInstance(made(one))) {
            return STATE;
        }
        return k >= 2 && k <= 4 ? w.classes.get(one).figure : one;
    }

    int undo() {
        if (done.isEmpty()) {
            return STATE;
        }
        int[] change = done.remove(done.size() - 1);
        make(change[0], change[1], change[2]);
        undone.add(change);
        return done.size();
    }

    int redo() {
        if (undone.isEmpty()) {
            return STATE;
        }
        int[] change = undone.remove(undone.size() - 1);
        make(change[0], change[1], change[3]);
        done.add(change);
        return undone.size();
    }

    int image() {
        image = w.copied();
        return w.classes.size();
    }

    int alike() {
        return image == null ? STATE : image.all().equals(w.all()) ? 1 : 0;
    }

    int back() {
        if (image == null) {
            return STATE;
        }
        w = image.copied();
        forget();
        return w.classes.size();
    }

    int count(int what) {
        switch (what) {
            case 0: return w.classes.size();
            case 1: return done.size();
            case 2: return undone.size();
            case 3: return tape.length();
            case 4: return paper.length();
            case 5: return (sorts[0] < 0 ? 0 : 1) + (sorts[1] < 0 ? 0 : 1) + (sorts[2] < 0 ? 0 : 1);
            default: return BAD;
        }
    }

    /** LETTERS of THE SPACE, for texts that can be read. */
    String signs() {
        return letters();
    }

    static TreeSet<String> words() {
        return new TreeSet<>(List.of(WORDS));
    }
}
