import java.util.ArrayList;
import java.util.List;

/** What the tests of the project share: what is due is compared, and a wrong answer is printed. */
final class Due {
    static final int NONE = -1000000, BAD = -1000001, STATE = -1000002, FULL = -1000003;
    static final int NULL = -1000011, PLACE = -1000012, KIND = -1000013, SIZE = -1000014, STORE = -1000015;

    private static final List<String> WRONG = new ArrayList<>();
    private static int asked = 0;
    private static String sentence = "";

    private Due() { }

    static void is(String what, long want, long got) {
        asked++;
        if (want != got) {
            wrong(what + ": answered " + got + ", due is " + want);
        }
    }

    static void wrong(String what) {
        WRONG.add(sentence + what);
        if (WRONG.size() <= 40) {
            System.out.println(sentence + what);
        }
    }

    /** What is wrong from now on is told with these words ahead of it. */
    static void under(String words) {
        sentence = words;
    }

    static int answers() {
        return asked;
    }

    /** Feeds a text byte by byte, and reads it. */
    static int tell(FeetAndRhymes x, String text) {
        for (int i = 0; i < text.length(); i++) {
            is("feed " + i + " of " + text, i + 1, x.feed(text.charAt(i)));
        }
        return x.poem();
    }

    static FeetAndRhymes told(String text) {
        FeetAndRhymes x = new FeetAndRhymes();
        is("lines of " + text, text.split(";").length - 1, tell(x, text));
        return x;
    }

    /** Puts the letters of a text into a row of bytes. */
    static void spell(FeetAndRhymes x, int row, String letters) {
        is("row for " + letters, letters.length(), x.row(row, 0, letters.length()));
        for (int i = 0; i < letters.length(); i++) {
            int letter = letters.charAt(i) - 'a';
            is("set for " + letters, letter, x.set(row, i, letter));
        }
    }

    static String spelled(FeetAndRhymes x, int word) {
        StringBuilder text = new StringBuilder();
        text.append(x.kind(word));
        int letters = x.word(word, 2);
        for (int i = 0; i < letters; i++) {
            text.append((char) ('a' + x.word(word, 10 + i)));
        }
        return text.toString();
    }

    /** The poem, as it would be told. */
    static String poemOf(FeetAndRhymes x) {
        StringBuilder text = new StringBuilder();
        int lines = x.count(2);
        if (lines == 0) {
            return "";
        }
        text.append('q').append(x.whole(0)).append(',').append(x.whole(1)).append(';');
        for (int l = 0; l < lines; l++) {
            int first = x.line(l, 1);
            int words = x.line(l, 0);
            for (int w = 0; w < words; w++) {
                text.append(w == 0 ? "" : ",").append(spelled(x, first + w));
            }
            text.append(';');
        }
        return text.toString();
    }

    static void same(String what, String want, String got) {
        asked++;
        if (!want.equals(got)) {
            wrong(what + ": is " + got + ", due is " + want);
        }
    }

    static void end() {
        System.out.println(asked + " answers, " + WRONG.size() + " of them not as due");
        if (!WRONG.isEmpty() || asked == 0) {
            System.exit(1);
        }
    }
}
