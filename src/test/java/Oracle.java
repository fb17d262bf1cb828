import java.math.BigInteger;
import java.util.ArrayDeque;
import java.util.ArrayList;
import java.util.Arrays;
import java.util.Collections;
import java.util.Deque;
import java.util.HashMap;
import java.util.List;
import java.util.Map;

/**
 * The document told a second time, in another way: poems are lists of texts, syllables are letters
 * S, W, E, every scan is written out, kinds are Java's own classes. It is slow, and is compared with
 * the class in runs of random calls.
 */
final class Oracle {
    static final int NONE = Due.NONE, BAD = Due.BAD, STATE = Due.STATE, FULL = Due.FULL;
    private static final int[] FINDING = {0, Due.NULL, Due.PLACE, Due.KIND, Due.SIZE, Due.STORE};
    private static final String[] FEET = {"ws", "sw", "wws", "sww"};
    private static final String[] TURNED = {"sw", "ws", "sww", "wws"};

    record W(int kind, String text) { }

    record P(int foot, int feet, List<List<W>> lines) {
        P deep() {
            List<List<W>> copy = new ArrayList<>();
            for (List<W> line : lines) {
                copy.add(new ArrayList<>(line));
            }
            return new P(foot, feet, copy);
        }

        P by(int newFoot, int newFeet) {
            return new P(newFoot, newFeet, deep().lines());
        }
    }

    private final Map<Integer, Number[]> rows = new HashMap<>();
    private final Map<Integer, Integer> lanes = new HashMap<>();
    private final List<Integer> tape = new ArrayList<>();
    private P poem;
    private Deque<P> past = new ArrayDeque<>();
    private final P[] images = new P[2];
    private int fault;
    private int status;
    private final List<Integer> trace = new ArrayList<>();

    // ---- rows

    private int found(int n) {
        status = n;
        return FINDING[n];
    }

    private static boolean in(int v, int low, int high) {
        return v >= low && v <= high;
    }

    int row(int row, int lane, int n) {
        if (!in(row, 0, 7) || !in(lane, 0, 2) || n > 40) {
            return BAD;
        }
        if (n < 0) {
            return found(4);
        }
        Number[] items = new Number[n];
        Arrays.fill(items, 0);
        rows.put(row, items);
        lanes.put(row, lane);
        status = 0;
        return n;
    }

    int set(int row, int i, int v) {
        if (!in(row, 0, 7)) {
            return BAD;
        }
        if (!rows.containsKey(row)) {
            return found(1);
        }
        if (!in(i, 0, rows.get(row).length - 1)) {
            return found(2);
        }
        status = 0;
        int lane = lanes.get(row);
        int low = lane == 0 ? Integer.valueOf(v).byteValue() : lane == 1 ? Integer.valueOf(v).shortValue() : v;
        rows.get(row)[i] = low;
        return low;
    }

    private static boolean beyond(int i, int n, int size) {
        return i < 0 || n < 0 || (long) i + n > size;
    }

    int copy(int a, int i, int b, int j, int n) {
        if (!in(a, 0, 7) || !in(b, 0, 7)) {
            return BAD;
        }
        if (!rows.containsKey(a) || !rows.containsKey(b)) {
            return found(1);
        }
        if (!lanes.get(a).equals(lanes.get(b))) {
            return found(5);
        }
        if (beyond(i, n, rows.get(a).length) || beyond(j, n, rows.get(b).length)) {
            return found(2);
        }
        status = 0;
        Number[] before = rows.get(a).clone();
        for (int k = 0; k < n; k++) {
            rows.get(b)[j + k] = before[i + k];
        }
        return n;
    }

    int drop(int row) {
        if (!in(row, 0, 7)) {
            return BAD;
        }
        if (!rows.containsKey(row)) {
            return found(1);
        }
        status = 0;
        lanes.remove(row);
        return rows.remove(row).length;
    }

    // ---- what is told

    int feed(int letter) {
        if (!in(letter, 0, 255)) {
            return BAD;
        }
        if (tape.size() == 130) {
            return FULL;
        }
        tape.add(letter);
        return tape.size();
    }

    /** What of a token: l a letter, n a number, a sign itself, ? none, $ the end. */
    private record Token(char sort, int place, int value) { }

    private static final class Faulty extends Exception {
        private static final long serialVersionUID = 1L;
        final int place;
        final int number;

        Faulty(int place, int number) {
            this.place = place;
            this.number = number;
        }
    }

    private List<Token> tokens() {
        List<Token> all = new ArrayList<>();
        int i = 0;
        while (i < tape.size()) {
            int c = tape.get(i);
            int j = i + 1;
            if (c >= '0' && c <= '9') {
                while (j < tape.size() && tape.get(j) >= '0' && tape.get(j) <= '9') {
                    j++;
                }
                int value = 0;
                for (int k = i; k < j; k++) {
                    value = Math.min(1000, value * 10 + tape.get(k) - '0');
                }
                all.add(new Token(j - i > 2 ? '?' : 'n', i, value));
            } else if (c >= 'a' && c <= 'z') {
                all.add(new Token('l', i, c));
            } else {
                all.add(new Token(c == ',' || c == ';' ? (char) c : '?', i, 0));
            }
            i = j;
        }
        all.add(new Token('$', tape.size(), 0));
        return all;
    }

    private List<Token> all;
    private int next;

    private Token expect(char sort) throws Faulty {
        Token t = all.get(next);
        if (t.sort != sort) {
            throw new Faulty(t.place, 1);
        }
        next++;
        return t;
    }

    private int number(int low, int high) throws Faulty {
        Token t = expect('n');
        if (!in(t.value, low, high)) {
            throw new Faulty(t.place, 2);
        }
        return t.value;
    }

    private W readWord(int lineNumber) throws Faulty {
        int place = all.get(next).place;
        int kind = number(1, 5);
        if (lineNumber >= 4) {
            throw new Faulty(place, 3);
        }
        Token first = expect('l');
        StringBuilder text = new StringBuilder().append((char) first.value);
        while (text.length() < 8 && all.get(next).sort == 'l') {
            text.append((char) expect('l').value);
        }
        if (!text.toString().matches(".*[aeiou].*")) {
            throw new Faulty(first.place, 4);
        }
        return new W(kind, text.toString());
    }

    private P readPoem() throws Faulty {
        if (all.get(0).value != 'q') {
            throw new Faulty(0, 1);
        }
        expect('l');
        int foot = number(0, 3);
        expect(',');
        int feet = number(1, 5);
        expect(';');
        List<List<W>> lines = new ArrayList<>();
        do {
            List<W> line = new ArrayList<>();
            line.add(readWord(lines.size()));
            while (line.size() < 5 && all.get(next).sort == ',') {
                next++;
                line.add(readWord(lines.size()));
            }
            expect(';');
            lines.add(line);
        } while (all.get(next).sort != '$');
        return new P(foot, feet, lines);
    }

    int poem() {
        all = tokens();
        next = 0;
        tape.clear();
        try {
            poem = readPoem();
            past.clear();
            return poem.lines().size();
        } catch (Faulty f) {
            fault = f.number;
            return -1000100 - f.place;
        }
    }

    int fault() {
        return fault;
    }

    int undo() {
        if (past.isEmpty()) {
            return STATE;
        }
        poem = past.removeLast();
        return past.size();
    }

    // ---- what is done

    private List<W> words() {
        List<W> flat = new ArrayList<>();
        if (poem != null) {
            poem.lines().forEach(flat::addAll);
        }
        return flat;
    }

    private boolean noWord(int w) {
        return !in(w, 0, words().size() - 1);
    }

    private boolean noLine(int l) {
        return poem == null || !in(l, 0, poem.lines().size() - 1);
    }

    private static int[] spot(P p, int word) {
        int rest = word;
        int line = 0;
        while (rest >= p.lines().get(line).size()) {
            rest -= p.lines().get(line).size();
            line++;
        }
        return new int[] {line, rest};
    }

    private static void setWord(P p, int word, W w) {
        int[] at = spot(p, word);
        p.lines().get(at[0]).set(at[1], w);
    }

    private void act() {
        past.addLast(poem.deep());
        if (past.size() > 24) {
            past.removeFirst();
        }
    }

    int become(int word, int kind) {
        if (noWord(word) || !in(kind, 1, 5)) {
            return BAD;
        }
        W was = words().get(word);
        if (was.kind == kind) {
            return STATE;
        }
        act();
        setWord(poem, word, new W(kind, was.text));
        return was.kind;
    }

    int put(int line, int place, int kind, int row, int n) {
        if (noLine(line) || !in(place, 0, poem.lines().get(line).size()) || !in(kind, 1, 5)
                || !in(row, 0, 7) || !in(n, 1, 8)) {
            return BAD;
        }
        if (poem.lines().get(line).size() == 5) {
            return FULL;
        }
        if (!rows.containsKey(row)) {
            return found(1);
        }
        Number[] items = rows.get(row);
        String text = "";
        for (int i = 0; i < n; i++) {
            if (i >= items.length || !in(items[i].intValue(), 0, 25)) {
                return found(2);
            }
            text += (char) ('a' + items[i].intValue());
        }
        if (!text.matches(".*[aeiou].*")) {
            return STATE;
        }
        status = 0;
        act();
        poem.lines().get(line).add(place, new W(kind, text));
        int number = place;
        for (int l = 0; l < line; l++) {
            number += poem.lines().get(l).size();
        }
        return number;
    }

    int take(int word) {
        if (noWord(word)) {
            return BAD;
        }
        int[] at = spot(poem, word);
        if (poem.lines().get(at[0]).size() == 1) {
            return STATE;
        }
        act();
        poem.lines().get(at[0]).remove(at[1]);
        return poem.lines().get(at[0]).size();
    }

    int swap(int a, int b) {
        if (noWord(a) || noWord(b)) {
            return BAD;
        }
        if (a == b) {
            return STATE;
        }
        act();
        W one = words().get(a);
        W two = words().get(b);
        setWord(poem, a, two);
        setWord(poem, b, one);
        return a < b ? b - a + 1 : a - b + 1;
    }

    int metre(int foot, int feet) {
        if (poem == null) {
            return STATE;
        }
        if (!in(foot, 0, 3) || !in(feet, 1, 5)) {
            return BAD;
        }
        int was = poem.foot() * 10 + poem.feet();
        act();
        poem = poem.by(foot, feet);
        return was;
    }

    // ---- words

    /** The text with an e at its end left out, where it is no run of its own. */
    private static String heard(String text) {
        return text.matches(".*[aeiou].*[^aeiou]e") ? text.substring(0, text.length() - 1) : text;
    }

    private static int syllables(String text) {
        int n = 0;
        for (String part : heard(text).split("[^aeiou]+")) {
            n += part.isEmpty() ? 0 : 1;
        }
        return n;
    }

    private static String stresses(W w) {
        int n = syllables(w.text);
        switch (w.kind) {
            case 1: return "S" + "W".repeat(n - 1);
            case 2: return "W".repeat(n - 1) + "S";
            case 3: return "SWSWSWSW".substring(0, n);
            case 4: return "E".repeat(n);
            default: return "W".repeat(n);
        }
    }

    private static int bits(String text, char c) {
        int b = 0;
        for (int i = 0; i < text.length(); i++) {
            b += text.charAt(i) == c ? 1 << i : 0;
        }
        return b;
    }

    private static String tail(W w) {
        String heard = heard(w.text);
        int wanted = stresses(w).lastIndexOf('S');
        if (wanted < 0) {
            wanted = syllables(w.text) - 1;
        }
        int run = -1;
        for (int i = 0; i < heard.length(); i++) {
            boolean begins = vowel(heard.charAt(i)) && (i == 0 || !vowel(heard.charAt(i - 1)));
            run += begins ? 1 : 0;
            if (begins && run == wanted) {
                return heard.substring(i);
            }
        }
        throw new IllegalStateException(w.text);
    }

    private static boolean vowel(char c) {
        return "aeiou".indexOf(c) >= 0;
    }

    private static boolean runsOn(W a, W b) {
        return heard(a.text).equals(a.text) && vowel(a.text.charAt(a.text.length() - 1)) && vowel(b.text.charAt(0));
    }

    int word(int word, int what) {
        if (noWord(word) || what < 0 || in(what, 6, 9)) {
            return BAD;
        }
        W w = words().get(word);
        int[] at = spot(poem, word);
        switch (what) {
            case 0: return at[0];
            case 1: return at[1];
            case 2: return w.text.length();
            case 3: return syllables(w.text);
            case 4: return bits(stresses(w), 'S');
            case 5: return bits(stresses(w), 'E');
            default: return what - 10 < w.text.length() ? w.text.charAt(what - 10) - 'a' : NONE;
        }
    }

    private static W lastWord(List<W> line) {
        return line.get(line.size() - 1);
    }

    private List<Integer> scheme() {
        Map<String, Integer> known = new HashMap<>();
        List<Integer> numbers = new ArrayList<>();
        for (List<W> line : poem.lines()) {
            String t = tail(lastWord(line));
            known.putIfAbsent(t, known.size());
            numbers.add(known.get(t));
        }
        return numbers;
    }

    int line(int line, int what) {
        if (noLine(line) || what < 0 || in(what, 6, 9)) {
            return BAD;
        }
        List<W> words = poem.lines().get(line);
        String tail = tail(lastWord(words));
        switch (what) {
            case 0: return words.size();
            case 1: return poem.lines().subList(0, line).stream().mapToInt(List::size).sum();
            case 2: return words.stream().mapToInt(w -> syllables(w.text)).sum();
            case 3: return scheme().get(line);
            case 4: return tail.length();
            case 5: {
                int b = 0;
                for (int i = 0; i + 1 < words.size(); i++) {
                    b |= runsOn(words.get(i), words.get(i + 1)) ? 1 << i : 0;
                }
                return b;
            }
            default: return what - 10 < tail.length() ? tail.charAt(what - 10) - 'a' : NONE;
        }
    }

    // ---- scans

    /** All ways to run words together, each with its syllables and, ahead of them, its cost. */
    private static void joinings(List<W> words, List<String> stresses, int i, String before, int paid,
            boolean joined, List<String> out) {
        if (i == words.size()) {
            out.add((char) paid + before);
            return;
        }
        String own = stresses.get(i);
        joinings(words, stresses, i + 1, before + own, paid, false, out);
        boolean may = i + 1 < words.size() && runsOn(words.get(i), words.get(i + 1));
        if (may && !(joined && own.length() == 1)) {
            joinings(words, stresses, i + 1, before + own.substring(0, own.length() - 1), paid + 1, true, out);
        }
    }

    private static int cost(String syllables, String places, String foot) {
        int n = syllables.length();
        int weakEnd = foot.length() - 1 - foot.lastIndexOf('s');
        int sum = Math.abs(n - places.length());
        if (n < places.length() - weakEnd || n > places.length() + 2) {
            return NONE;
        }
        for (int i = 0; i < n; i++) {
            char c = syllables.charAt(i);
            if (i >= places.length()) {
                if (c == 'S') {
                    return NONE;
                }
            } else if (c == 'S' && places.charAt(i) == 'w') {
                sum += 2;
            } else if (c == 'W' && places.charAt(i) == 's') {
                sum += 3;
            }
        }
        return sum;
    }

    /** The least cost and how many scans have it. */
    private static int[] least(List<W> words, List<String> stresses, int foot, int feet) {
        List<String> joined = new ArrayList<>();
        joinings(words, stresses, 0, "", 0, false, joined);
        List<Integer> costs = new ArrayList<>();
        for (String j : joined) {
            int paid = j.charAt(0);
            String syllables = j.substring(1);
            int plain = cost(syllables, FEET[foot].repeat(feet), FEET[foot]);
            if (plain != NONE) {
                costs.add(plain + paid);
            }
            if (feet > 1) {
                int turned = cost(syllables, TURNED[foot] + FEET[foot].repeat(feet - 1), FEET[foot]);
                if (turned != NONE) {
                    costs.add(turned + paid + 1);
                }
            }
        }
        if (costs.isEmpty()) {
            return new int[] {NONE, 0};
        }
        int low = Collections.min(costs);
        return new int[] {low, Collections.frequency(costs, low)};
    }

    private static int[] least(P p, int line, int foot, int feet) {
        List<String> stresses = new ArrayList<>();
        p.lines().get(line).forEach(w -> stresses.add(stresses(w)));
        return least(p.lines().get(line), stresses, foot, feet);
    }

    int scan(int line, int foot, int feet, int what) {
        if (noLine(line) || !in(foot, 0, 3) || !in(feet, 1, 5) || !in(what, 0, 1)) {
            return BAD;
        }
        return least(poem, line, foot, feet)[what];
    }

    private int[] nearestOf(int from, int to) {
        int[] best = {NONE, NONE, NONE};
        for (int m = 0; m < 20; m++) {
            int sum = sum(from, to, m / 5, m % 5 + 1);
            if (sum != NONE && (best[2] == NONE || sum < best[2])) {
                best = new int[] {m / 5, m % 5 + 1, sum};
            }
        }
        return best;
    }

    private int sum(int from, int to, int foot, int feet) {
        int sum = 0;
        for (int l = from; l < to; l++) {
            int least = least(poem, l, foot, feet)[0];
            if (least == NONE) {
                return NONE;
            }
            sum += least;
        }
        return sum;
    }

    int nearest(int line, int what) {
        return noLine(line) || !in(what, 0, 2) ? BAD : nearestOf(line, line + 1)[what];
    }

    int whole(int what) {
        if (poem == null) {
            return STATE;
        }
        int n = poem.lines().size();
        switch (what) {
            case 0: return poem.foot();
            case 1: return poem.feet();
            case 2: return sum(0, n, poem.foot(), poem.feet());
            case 3:
            case 4:
            case 5: return nearestOf(0, n)[what - 3];
            case 6:
                return 1 + List.of("[0, 0, 1, 1]", "[0, 1, 0, 1]", "[0, 1, 1, 0]", "[0, 0, 0, 0]", "[0, 1, 2, 1]")
                        .indexOf(scheme().toString());
            case 7: return (int) scheme().stream().distinct().count();
            default: return BAD;
        }
    }

    int rhymes(int a, int b) {
        if (noLine(a) || noLine(b)) {
            return BAD;
        }
        return tail(lastWord(poem.lines().get(a))).equals(tail(lastWord(poem.lines().get(b)))) ? 1 : 0;
    }

    // ---- foretold

    int ends(int line, int other) {
        if (noLine(line) || noLine(other) || line == other) {
            return BAD;
        }
        String wanted = tail(lastWord(poem.lines().get(other)));
        int b = 0;
        for (int w = 0; w < words().size(); w++) {
            b |= tail(words().get(w)).equals(wanted) ? 1 << w : 0;
        }
        return b;
    }

    private P with(int word, int kind) {
        P p = poem.deep();
        setWord(p, word, new W(kind, words().get(word).text));
        return p;
    }

    int kinds(int word, int v) {
        if (noWord(word) || !in(v, 0, 99)) {
            return BAD;
        }
        int b = 0;
        for (int k = 1; k <= 5; k++) {
            b |= least(with(word, k), spot(poem, word)[0], poem.foot(), poem.feet())[0] == v ? 1 << k : 0;
        }
        return b;
    }

    private static boolean tells(P p, int foot, int feet, Number[] items, int i) {
        for (int l = 0; l < p.lines().size(); l++) {
            int least = least(p, l, foot, feet)[0];
            if ((least == NONE ? -1 : least) != items[i + l].intValue()) {
                return false;
            }
        }
        return true;
    }

    int who(int word, int which, int row, int i) {
        if (noWord(word) || !in(which, 0, 2) || !in(row, 0, 7)) {
            return BAD;
        }
        if (!rows.containsKey(row)) {
            return found(1);
        }
        Number[] items = rows.get(row);
        if (beyond(i, poem.lines().size(), items.length)) {
            return found(2);
        }
        status = 0;
        int b = 0;
        for (int k = 0; k <= 5; k++) {
            boolean fits = which == 0 ? k > 0 && tells(poem, poem.foot(), k, items, i)
                    : which == 1 ? k < 4 && tells(poem, k, poem.feet(), items, i)
                    : k > 0 && tells(with(word, k), poem.foot(), poem.feet(), items, i);
            b |= fits ? 1 << k : 0;
        }
        return b;
    }

    private BigInteger cases(List<W> words, List<String> stresses, int v, int p) {
        for (int i = 0; i < stresses.size(); i++) {
            String s = stresses.get(i);
            if (s.indexOf('E') >= 0) {
                List<String> strong = new ArrayList<>(stresses);
                List<String> weak = new ArrayList<>(stresses);
                strong.set(i, s.replaceFirst("E", "S"));
                weak.set(i, s.replaceFirst("E", "W"));
                return cases(words, strong, v, p).multiply(BigInteger.valueOf(p))
                        .add(cases(words, weak, v, p).multiply(BigInteger.valueOf(10 - p)));
            }
        }
        int least = least(words, stresses, poem.foot(), poem.feet())[0];
        return least != NONE && least <= v ? BigInteger.ONE : BigInteger.ZERO;
    }

    long stressed(int line, int v, int p, int what) {
        if (noLine(line) || !in(v, 0, 99) || !in(p, 0, 10) || !in(what, 0, 1)) {
            return BAD;
        }
        List<W> words = poem.lines().get(line);
        List<String> stresses = new ArrayList<>();
        words.forEach(w -> stresses.add(stresses(w)));
        int open = (int) String.join("", stresses).chars().filter(c -> c == 'E').count();
        if (open > 8) {
            return FULL;
        }
        BigInteger above = cases(words, stresses, v, p);
        BigInteger below = BigInteger.TEN.pow(open);
        BigInteger gcd = above.gcd(below);
        return (what == 0 ? above : below).divide(gcd).longValueExact();
    }

    int drawn(int n, int seed, int what) {
        if (poem == null) {
            return STATE;
        }
        if (!in(n, 0, 20) || !in(seed, 1, 999999) || !in(what, 0, 1)) {
            return BAD;
        }
        P kept = poem;
        poem = poem.deep();
        BigInteger x = BigInteger.valueOf(seed);
        int sum = 0;
        int none = 0;
        for (int i = 0; i < n; i++) {
            x = x.multiply(BigInteger.valueOf(16807)).mod(BigInteger.valueOf(2147483647));
            int word = x.mod(BigInteger.valueOf(words().size())).intValue();
            int kind = x.shiftRight(4).mod(BigInteger.valueOf(5)).intValue() + 1;
            poem = with(word, kind);
            int least = least(poem, spot(poem, word)[0], poem.foot(), poem.feet())[0];
            sum += least == NONE ? 0 : least;
            none += least == NONE ? 1 : 0;
        }
        poem = kept;
        return what == 0 ? sum : none;
    }

    int image(int k) {
        if (!in(k, 0, 1)) {
            return BAD;
        }
        if (poem == null) {
            return STATE;
        }
        images[k] = poem.deep();
        return 1;
    }

    int restore(int k) {
        if (!in(k, 0, 1)) {
            return BAD;
        }
        if (images[k] == null) {
            return STATE;
        }
        poem = images[k].deep();
        past = new ArrayDeque<>();
        return 1;
    }

    // ---- asked

    private interface Asked {
        int number();

        String text();

        List<Integer> trace();

        default int lentSize() {
            trace().add(10);
            return text().length();
        }

        default int lentMark() {
            trace().add(20);
            return number();
        }

        default int size() {
            return lentSize();
        }

        default int mark() {
            return lentMark();
        }
    }

    private static class Word implements Asked {
        final int number;
        final String text;
        final List<Integer> trace;

        Word(int number, String text, List<Integer> trace) {
            this.number = number;
            this.text = text;
            this.trace = trace;
        }

        @Override public int number() {
            return number;
        }

        @Override public String text() {
            return text;
        }

        @Override public List<Integer> trace() {
            return trace;
        }
    }

    private static class First extends Word {
        First(int number, String text, List<Integer> trace) {
            super(number, text, trace);
        }

        @Override public int size() {
            trace.add(11);
            int lent = super.size();
            return lent + mark();
        }

        @Override public int mark() {
            trace.add(21);
            return super.mark() + syllables(text);
        }
    }

    private static final class Last extends First {
        Last(int number, String text, List<Integer> trace) {
            super(number, text, trace);
        }

        @Override public int size() {
            trace.add(12);
            return -super.size();
        }

        @Override public int mark() {
            trace.add(24);
            return super.mark() * 2;
        }
    }

    private static final class Even extends First {
        Even(int number, String text, List<Integer> trace) {
            super(number, text, trace);
        }

        @Override public int mark() {
            trace.add(22);
            return super.mark() - 1000;
        }
    }

    private static class Small extends Word {
        Small(int number, String text, List<Integer> trace) {
            super(number, text, trace);
        }

        @Override public int size() {
            trace.add(13);
            return super.size() - 100;
        }

        @Override public int mark() {
            trace.add(23);
            int lent = super.mark();
            return lent - size();
        }
    }

    private static final class Mute extends Small {
        Mute(int number, String text, List<Integer> trace) {
            super(number, text, trace);
        }

        @Override public int size() {
            trace.add(14);
            return super.size() * 2;
        }
    }

    private Word asked(int one) {
        W w = words().get(one);
        switch (w.kind) {
            case 1: return new First(one, w.text, trace);
            case 2: return new Last(one, w.text, trace);
            case 3: return new Even(one, w.text, trace);
            case 4: return new Small(one, w.text, trace);
            default: return new Mute(one, w.text, trace);
        }
    }

    int kind(int one) {
        return noWord(one) ? BAD : words().get(one).kind;
    }

    int as(int one, int kind) {
        if (noWord(one) || !in(kind, 0, 5)) {
            return BAD;
        }
        Class<?>[] classes = {Word.class, First.class, Last.class, Even.class, Small.class, Mute.class};
        if (!classes[kind].isInstance(asked(one))) {
            return found(3);
        }
        status = 0;
        return one;
    }

    int ask(int one, int what) {
        if (noWord(one) || !in(what, 0, 1)) {
            return BAD;
        }
        trace.clear();
        return what == 0 ? asked(one).size() : asked(one).mark();
    }

    int trace(int i) {
        return in(i, 0, Math.min(16, trace.size()) - 1) ? trace.get(i) : NONE;
    }

    int count(int what) {
        switch (what) {
            case 0: return rows.size();
            case 1: return words().size();
            case 2: return poem == null ? 0 : poem.lines().size();
            case 3: return words().stream().mapToInt(w -> w.text.length()).sum();
            case 4: return words().stream().mapToInt(w -> syllables(w.text)).sum();
            case 5: return past.size();
            case 6: return tape.size();
            default: return BAD;
        }
    }

    int status() {
        return status;
    }
}
