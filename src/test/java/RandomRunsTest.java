import java.lang.reflect.InvocationTargetException;
import java.lang.reflect.Method;
import java.util.ArrayList;
import java.util.Arrays;
import java.util.Comparator;
import java.util.List;
import java.util.Random;

/** All promises: random runs of calls, by the class and by the oracle; none of them may throw. */
public final class RandomRunsTest {
    private static final int RUNS = 8000;
    /** The document promises nothing of an object's calls behind these. */
    private static final int CALLS = 512, CALLS_TO_LOOK = 90;
    private static final int[] EDGES = {Integer.MIN_VALUE, Integer.MIN_VALUE + 1, -1000000, -11, -10, -2, -1, 0, 1, 2,
        3, 4, 5, 6, 7, 8, 9, 10, 11, 12, 16, 20, 21, 25, 26, 39, 40, 41, 99, 100, 127, 128, 130, 255, 256, 32768,
        65535, 999999, 1000000, Integer.MAX_VALUE - 10, Integer.MAX_VALUE - 1, Integer.MAX_VALUE};
    private static final String[] ACTS = {"become", "put", "take", "swap", "metre", "undo", "undo", "restore", "image"};

    private final Random random;
    private final FeetAndRhymes real = new FeetAndRhymes();
    private final Oracle oracle = new Oracle();
    private final List<String> told = new ArrayList<>();
    private final int run;
    private boolean wrong;

    private RandomRunsTest(int run) {
        this.run = run;
        this.random = new Random(7919L * run + 13);
    }

    public static void main(String[] args) throws Exception {
        Method[] methods = FeetAndRhymes.class.getDeclaredMethods();
        List<Method> open = new ArrayList<>();
        for (Method m : methods) {
            if (java.lang.reflect.Modifier.isPublic(m.getModifiers())) {
                open.add(m);
            }
        }
        open.sort(Comparator.comparing(Method::getName));
        for (int run = 0; run < RUNS; run++) {
            if (!new RandomRunsTest(run).go(open)) {
                break;
            }
        }
        Due.end();
    }

    private boolean go(List<Method> open) throws Exception {
        boolean good = true;
        if (random.nextInt(10) > 0) {
            good = tell();
        }
        int look = random.nextInt(3) == 0 ? CALLS_TO_LOOK : 0;
        while (good && told.size() < CALLS - look) {
            int choice = random.nextInt(100);
            if (choice < 2) {
                good = tell();
            } else if (choice < 6) {
                good = spellRow();
            } else if (choice < 9) {
                good = tellLeasts();
            } else if (choice < 25) {
                good = callNamed(open, ACTS[random.nextInt(ACTS.length)]);
            } else {
                Method m = open.get(random.nextInt(open.size()));
                good = m.getName().equals("poem") && random.nextInt(4) > 0 || callNamed(open, m.getName());
            }
            good = good && (random.nextInt(3) > 0 || call("status"))
                    && (random.nextInt(3) > 0 || call("count", random.nextInt(7)));
        }
        look();
        return !wrong;
    }

    /** What can be seen of the poem by the calls that are left, words and lines in any order. */
    private void look() throws Exception {
        boolean good = true;
        for (int what = 0; what < 8 && good; what++) {
            good = call("count", what) && call("whole", what);
        }
        good = good && call("fault") && call("status");
        while (good) {
            int word = random.nextInt(Math.max(1, oracle.count(1)));
            int line = random.nextInt(Math.max(1, oracle.count(2)));
            good = call("kind", word) && call("word", word, random.nextInt(19)) && call("line", line, random.nextInt(19));
        }
    }

    private boolean callNamed(List<Method> open, String name) throws Exception {
        for (Method m : open) {
            if (m.getName().equals(name)) {
                int[] args = new int[m.getParameterCount()];
                for (int i = 0; i < args.length; i++) {
                    args[i] = argument(name, i);
                }
                return call(name, args);
            }
        }
        throw new IllegalStateException(name);
    }

    private int argument(String name, int i) {
        if (random.nextInt(14) == 0) {
            return EDGES[random.nextInt(EDGES.length)];
        }
        int n = Math.max(1, oracle.count(1));
        int lines = Math.max(1, oracle.count(2));
        switch (name + i) {
            case "row2": return random.nextInt(12);
            case "set2": return random.nextInt(3) > 0 ? random.nextInt(26) : random.nextInt();
            case "row0":
            case "set0":
            case "copy0":
            case "copy2":
            case "drop0":
            case "put3":
            case "who2": return random.nextInt(4);
            case "row1":
            case "nearest1":
            case "who1": return random.nextInt(3);
            case "feed0": return 32 + random.nextInt(96);
            case "become0":
            case "take0":
            case "swap0":
            case "swap1":
            case "word0":
            case "kinds0":
            case "who0":
            case "kind0":
            case "as0":
            case "ask0": return random.nextInt(n);
            case "put0":
            case "line0":
            case "scan0":
            case "nearest0":
            case "rhymes0":
            case "rhymes1":
            case "ends0":
            case "ends1":
            case "stressed0": return random.nextInt(lines);
            case "put1": return random.nextInt(3);
            case "become1":
            case "put2":
            case "metre1":
            case "scan2": return 1 + random.nextInt(5);
            case "as1": return random.nextInt(6);
            case "put4": return 1 + random.nextInt(4);
            case "metre0":
            case "scan1": return random.nextInt(4);
            case "kinds1":
            case "stressed1": return random.nextInt(8);
            case "stressed2": return random.nextInt(11);
            case "drawn0": return random.nextInt(21);
            case "drawn1": return 1 + random.nextInt(999999);
            case "scan3":
            case "stressed3":
            case "drawn2":
            case "image0":
            case "restore0":
            case "ask1": return random.nextInt(2);
            case "word1":
            case "line1": return random.nextInt(2) == 0 ? random.nextInt(6) : 10 + random.nextInt(9);
            default: return random.nextInt(8);
        }
    }

    private boolean tell() throws Exception {
        boolean good = true;
        if (random.nextInt(3) > 0) {
            good = call("poem");
        }
        String text = text();
        for (int i = 0; i < text.length() && good; i++) {
            good = call("feed", text.charAt(i));
        }
        return good && call("poem");
    }

    private String text() {
        StringBuilder text = new StringBuilder();
        text.append('q').append(random.nextInt(4)).append(',').append(1 + random.nextInt(5)).append(';');
        if (random.nextInt(5) == 0) {
            return text.append(full()).toString();
        }
        int most = 1 + random.nextInt(5);
        int lines = random.nextInt(12) == 0 ? 5 : 1 + random.nextInt(4);
        for (int l = 0; l < lines; l++) {
            int words = random.nextInt(40) == 0 ? 6 : 1 + random.nextInt(most);
            for (int w = 0; w < words; w++) {
                text.append(w == 0 ? "" : ",").append(1 + random.nextInt(5)).append(letters());
            }
            text.append(';');
        }
        while (text.length() > 130) {
            int cut = text.lastIndexOf(";", text.length() - 2);
            text.setLength(cut + 1);
        }
        if (random.nextInt(3) == 0) {
            spoil(text);
        }
        return text.toString();
    }

    /** Lines with as many words as there can be, each so short that the tape has room for all. */
    private String full() {
        StringBuilder text = new StringBuilder();
        for (int w = 0; w < 20; w++) {
            text.append(1 + random.nextInt(5)).append("aeiou".charAt(random.nextInt(5)));
            for (int i = random.nextInt(4); i > 0; i--) {
                text.append("aeiount".charAt(random.nextInt(7)));
            }
            text.append(w % 5 == 4 ? ';' : ',');
        }
        return text.toString();
    }

    private void spoil(StringBuilder text) {
        String signs = "aeb019,;q? A{`/:\u00ff";
        int at = random.nextInt(text.length());
        char sign = signs.charAt(random.nextInt(signs.length()));
        switch (random.nextInt(4)) {
            case 0: text.setCharAt(at, sign); break;
            case 1: text.insert(at, sign); break;
            case 2: text.deleteCharAt(at); break;
            default: text.setLength(at); break;
        }
    }

    private String letters() {
        String some = random.nextBoolean() ? "aeiou" : "aeioubcdne";
        int n = 1 + random.nextInt(random.nextInt(6) == 0 ? 9 : 4);
        StringBuilder text = new StringBuilder();
        for (int i = 0; i < n; i++) {
            text.append(random.nextInt(3) == 0 ? "nt".charAt(random.nextInt(2)) : some.charAt(random.nextInt(some.length())));
        }
        return text.toString();
    }

    private boolean spellRow() throws Exception {
        String letters = letters();
        int row = random.nextInt(4);
        boolean good = call("row", row, random.nextInt(3), letters.length());
        for (int i = 0; i < letters.length() && good; i++) {
            good = call("set", row, i, letters.charAt(i) - 'a');
        }
        return good;
    }

    /** A row that tells what is, or would be by another metre or kind, so that who() has something to find. */
    private boolean tellLeasts() throws Exception {
        int lines = oracle.count(2);
        int row = random.nextInt(4);
        int from = random.nextInt(3);
        boolean good = call("row", row, random.nextInt(3), lines + from);
        for (int l = 0; l < lines && good; l++) {
            int foot = random.nextInt(3) == 0 ? random.nextInt(4) : oracle.whole(0);
            int least = oracle.scan(l, foot, oracle.whole(1), 0);
            good = call("set", row, from + l, least == Due.NONE ? -1 : least);
        }
        for (int which = 0; which < 3 && good && lines > 0; which++) {
            good = call("who", random.nextInt(oracle.count(1)), which, row, from);
        }
        return good;
    }

    /** Answers whether the run goes on: the answers are alike, and there are calls left. */
    private boolean call(String name, int... args) throws Exception {
        if (told.size() == CALLS) {
            return false;
        }
        Class<?>[] types = new Class<?>[args.length];
        Arrays.fill(types, int.class);
        Object[] values = Arrays.stream(args).boxed().toArray();
        String text = name + Arrays.toString(args);
        told.add(text);
        long want = ((Number) Oracle.class.getDeclaredMethod(name, types).invoke(oracle, values)).longValue();
        long got;
        try {
            got = ((Number) FeetAndRhymes.class.getMethod(name, types).invoke(real, values)).longValue();
        } catch (InvocationTargetException e) {
            Due.wrong("run " + run + " call " + told.size() + ": " + text + " threw " + e.getCause() + " behind "
                    + told.subList(Math.max(0, told.size() - 20), told.size()));
            wrong = true;
            return false;
        }
        if (got != want) {
            wrong = true;
            System.out.println("behind " + told.subList(Math.max(0, told.size() - 20), told.size()));
        }
        Due.is("run " + run + " call " + told.size() + ": " + text, want, got);
        return got == want;
    }
}
