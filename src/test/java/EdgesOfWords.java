/** Syllables, tails, rhymes and schemes: what the terms say of them, and promises 15, 16 and 20. */
final class EdgesOfWords {
    private EdgesOfWords() { }

    static void all() {
        runsOfVowels();
        aloneAtItsEnd();
        ifThereIsAnother();
        strongWeakEither();
        byFirst();
        byLast();
        byEven();
        bySmall();
        byMute();
        tailFromStrong();
        tailWithoutStrong();
        tailToTheEnd();
        rhymeIfAlike();
        schemeFirst();
        schemeOthers();
        schemeLeastNumber();
        names();
        noName();
        promise15Tells();
        promise15Letters();
        promise15None();
        promise15Bad();
        promise16Tells();
        promise16RunTogether();
        promise16Letters();
        promise16None();
        promise16Bad();
        promise20Rhymes();
        promise20Bad();
    }

    private static void syllables(String letters, int want) {
        for (int kind = 1; kind <= 5; kind++) {
            FeetAndRhymes x = Due.told("q0,1;" + kind + letters + ";");
            Due.is("syllables of " + letters, want, x.word(0, 3));
        }
    }

    private static void runsOfVowels() {
        Edge.of("Terms 2", "SYLLABLES of a WORD: one for each run of vowels side by side;");
        syllables("a", 1);
        syllables("aeiouaei", 1);
        syllables("bcdfghju", 1);
        syllables("ubcdfghj", 1);
        syllables("aba", 2);
        syllables("aabaa", 2);
        syllables("ayo", 2);
        syllables("ababa", 3);
        syllables("abababab", 4);
        syllables("babababa", 4);
        syllables("stony", 1);
    }

    private static void aloneAtItsEnd() {
        Edge.of("Terms 2", "but an e alone at its very end, behind no vowel, is no run of its own,");
        syllables("stone", 1);
        syllables("abe", 1);
        syllables("abababe", 3);
        syllables("bababae", 3);
        syllables("eve", 1);
        syllables("aloe", 2);
        syllables("ee", 1);
        syllables("agree", 2);
        syllables("abes", 2);
        syllables("abea", 2);
        syllables("ebo", 2);
        for (char vowel : "aiou".toCharArray()) {
            syllables("ab" + vowel, 2);
        }
        for (char letter = 'a'; letter <= 'z'; letter++) {
            boolean vowel = "aeiou".indexOf(letter) >= 0;
            syllables("obo" + letter + "e", 2);
            syllables("obb" + letter + "e", vowel ? 2 : 1);
        }
    }

    private static void ifThereIsAnother() {
        Edge.of("Terms 2", "if there is another.");
        syllables("e", 1);
        syllables("the", 1);
        syllables("bcdfghje", 1);
        syllables("athe", 1);
        syllables("ebe", 1);
    }

    /** Bits of the strong ones and of those that are either, of words of one to four syllables. */
    private static void stresses(int kind, int[] strong, int[] either) {
        String[] words = {"ta", "tata", "tatata", "tatatata"};
        for (int n = 1; n <= 4; n++) {
            FeetAndRhymes x = Due.told("q0,1;" + kind + words[n - 1] + ";");
            Due.is("syllables", n, x.word(0, 3));
            Due.is("strong ones of " + n + " by kind " + kind, strong[n - 1], x.word(0, 4));
            Due.is("either ones of " + n + " by kind " + kind, either[n - 1], x.word(0, 5));
        }
    }

    private static void strongWeakEither() {
        Edge.of("Terms 2", "A SYLLABLE is STRONG, WEAK, or EITHER:");
        for (int kind = 1; kind <= 5; kind++) {
            FeetAndRhymes x = Due.told("q0,1;" + kind + "tatatata;");
            Due.is("never both", 0, x.word(0, 4) & x.word(0, 5));
            Due.is("none but its own", 0, (x.word(0, 4) | x.word(0, 5)) & ~15);
        }
    }

    private static void byFirst() {
        Edge.of("Terms 2", "by FIRST the first one is STRONG, the others WEAK;");
        stresses(1, new int[] {1, 1, 1, 1}, new int[4]);
    }

    private static void byLast() {
        Edge.of("Terms 2", "by LAST the last one;");
        stresses(2, new int[] {1, 2, 4, 8}, new int[4]);
        FeetAndRhymes x = Due.told("q0,1;2stone,2alone;");
        Due.is("an e that is no run is not the last one", 1, x.word(0, 4));
        Due.is("an e that is no run is not the last one", 2, x.word(1, 4));
    }

    private static void byEven() {
        Edge.of("Terms 2", "by EVEN the first one, the third, ..;");
        stresses(3, new int[] {1, 1, 5, 5}, new int[4]);
    }

    private static void bySmall() {
        Edge.of("Terms 2", "by SMALL all are EITHER;");
        stresses(4, new int[4], new int[] {1, 3, 7, 15});
    }

    private static void byMute() {
        Edge.of("Terms 2", "by MUTE all are WEAK.");
        stresses(5, new int[4], new int[4]);
    }

    // ---- tails

    private static void tail(String word, String want) {
        FeetAndRhymes x = Due.told("q0,1;1banana," + word + ";1no;");
        Due.is("length of the tail of " + word, want.length(), x.line(0, 4));
        for (int i = 0; i < want.length(); i++) {
            Due.is("letter " + i + " of the tail of " + word, want.charAt(i) - 'a', x.line(0, 10 + i));
        }
        Due.is("behind the tail of " + word, Due.NONE, x.line(0, 10 + want.length()));
    }

    private static void tailFromStrong() {
        Edge.of("Terms 2", "TAIL of a LINE: letters of its last WORD from the vowels of its last STRONG SYLLABLE on");
        tail("1river", "iver");
        tail("2river", "er");
        tail("3river", "iver");
        tail("1banana", "anana");
        tail("2banana", "a");
        tail("3banana", "a");
        tail("3tatatata", "ata");
        tail("1tatatata", "atatata");
        tail("1beauty", "eauty");
        tail("2adieu", "ieu");
        tail("1a", "a");
        tail("1aeiouaei", "aeiouaei");
    }

    private static void tailWithoutStrong() {
        Edge.of("Terms 2", "(of its last SYLLABLE, if none is STRONG)");
        for (int kind = 4; kind <= 5; kind++) {
            tail(kind + "river", "er");
            tail(kind + "banana", "a");
            tail(kind + "alone", "on");
            tail(kind + "bcdfghje", "e");
            tail(kind + "tatatata", "a");
        }
    }

    private static void tailToTheEnd() {
        Edge.of("Terms 2", "all to the end but an e that is no run of its own.");
        tail("1stone", "on");
        tail("1stones", "ones");
        tail("1stony", "ony");
        tail("2alone", "on");
        tail("1alone", "alon");
        tail("1eve", "ev");
        tail("1the", "e");
        tail("1e", "e");
        tail("2aloe", "oe");
        tail("2agree", "ee");
        tail("1abe", "ab");
    }

    private static void rhymeIfAlike() {
        Edge.of("Terms 2", "LINES RHYME, if their TAILS are alike.");
        rhyme("1stone", "1on", 1);
        rhyme("1stone", "2alone", 1);
        rhyme("1stone", "1alone", 0);
        rhyme("1stone", "5alone", 1);
        rhyme("1an", "1ann", 0);
        rhyme("1ann", "1an", 0);
        rhyme("1a", "1banan", 0);
        rhyme("2banana", "1a", 1);
        rhyme("1ban", "1ben", 0);
        rhyme("1ban", "1bat", 0);
        rhyme("1bae", "1ba", 0);
        rhyme("4stone,1ba", "4stone,1be", 0);
        rhyme("4the,1ba", "5stone,1ta", 1);
    }

    private static void rhyme(String one, String other, int want) {
        FeetAndRhymes x = Due.told("q0,1;" + one + ";" + other + ";");
        Due.is(one + " and " + other, want, x.rhymes(0, 1));
        Due.is(other + " and " + one, want, x.rhymes(1, 0));
    }

    // ---- schemes

    private static final String[] ENDS = {"1ba", "2tobe", "5di", "4zo"};

    private static void scheme(String numbers, int name) {
        StringBuilder text = new StringBuilder("q0,1;");
        int most = 0;
        for (int l = 0; l < numbers.length(); l++) {
            int number = numbers.charAt(l) - '0';
            text.append("1ta,").append(ENDS[number]).append(';');
            most = Math.max(most, number);
        }
        FeetAndRhymes x = Due.told(text.toString());
        for (int l = 0; l < numbers.length(); l++) {
            Due.is("number of line " + l + " of " + text, numbers.charAt(l) - '0', x.line(l, 3));
        }
        Due.is("name of " + text, name, x.whole(6));
        Due.is("numbers of " + text, most + 1, x.whole(7));
    }

    private static void schemeFirst() {
        Edge.of("Terms 2", "SCHEME: the first LINE is 0;");
        scheme("0", 0);
        for (String end : ENDS) {
            FeetAndRhymes x = Due.told("q0,1;" + end + ";1tu;");
            Due.is("by " + end, 0, x.line(0, 3));
        }
    }

    private static void schemeOthers() {
        Edge.of("Terms 2", "each other one is as the first LINE with which it RHYMES,");
        scheme("00", 0);
        scheme("000", 0);
        scheme("010", 0);
        scheme("011", 0);
        scheme("0110", 3);
        scheme("0122", 0);
        scheme("0120", 0);
    }

    private static void schemeLeastNumber() {
        Edge.of("Terms 2", "else the least number that was not yet.");
        scheme("01", 0);
        scheme("001", 0);
        scheme("012", 0);
        scheme("0123", 0);
        scheme("0001", 0);
        scheme("0012", 0);
        scheme("0102", 0);
        scheme("0112", 0);
    }

    private static void names() {
        Edge.of("Terms 2", "NAME of a SCHEME (of four LINES): 1 of 0 0 1 1; 2 of 0 1 0 1; 3 of 0 1 1 0; "
                + "4 of 0 0 0 0; 5 of 0 1 2 1;");
        scheme("0011", 1);
        scheme("0101", 2);
        scheme("0110", 3);
        scheme("0000", 4);
        scheme("0121", 5);
    }

    private static void noName() {
        Edge.of("Terms 2", "0 of any other, of fewer LINES.");
        for (String other : new String[] {"0001", "0010", "0012", "0100", "0102", "0111", "0112", "0120", "0122",
            "0123", "000", "001", "010", "011", "012", "00", "01", "0"}) {
            scheme(other, 0);
        }
    }

    // ---- promises 15, 16, 20

    private static void promise15Tells() {
        Edge.of("Promise 15", "Of a WORD: 0 its LINE, 1 its place in that, 2 how many letters, 3 how many SYLLABLES, "
                + "4 STRONG ones (bits), 5 EITHER ones (bits);");
        FeetAndRhymes x = Due.told("q0,1;1a,4banana;3abababab;2ta,2ta,2ta,2ta,2alone;5e;");
        tells(x, 0, 0, 0, 1, 1, 1, 0);
        tells(x, 1, 0, 1, 6, 3, 0, 7);
        tells(x, 2, 1, 0, 8, 4, 5, 0);
        tells(x, 3, 2, 0, 2, 1, 1, 0);
        tells(x, 7, 2, 4, 5, 2, 2, 0);
        tells(x, 8, 3, 0, 1, 1, 0, 0);
    }

    private static void tells(FeetAndRhymes x, int word, int... want) {
        for (int what = 0; what < want.length; what++) {
            Due.is("word " + word + ", " + what, want[what], x.word(word, what));
        }
    }

    private static void promise15Letters() {
        Edge.of("Promise 15", "10 and i (0 on): letter i (0 a ..;");
        FeetAndRhymes x = Due.told("q0,1;1abcdefgh,1xyza;");
        for (int i = 0; i < 8; i++) {
            Due.is("letter " + i, i, x.word(0, 10 + i));
        }
        Due.is("x", 23, x.word(1, 10));
        Due.is("z", 25, x.word(1, 12));
        Due.is("a", 0, x.word(1, 13));
    }

    private static void promise15None() {
        Edge.of("Promise 15", "NONE: not so many).");
        FeetAndRhymes x = Due.told("q0,1;1abcdefgh,1a;");
        Due.is("a ninth of eight", Due.NONE, x.word(0, 18));
        Due.is("a second of one", Due.NONE, x.word(1, 11));
        Due.is("far off", Due.NONE, x.word(1, 1000));
        Due.is("as far as can be", Due.NONE, x.word(1, Integer.MAX_VALUE));
    }

    private static void promise15Bad() {
        Edge.of("Promise 15", "BAD.");
        FeetAndRhymes x = new FeetAndRhymes();
        Due.is("no poem", Due.BAD, x.word(0, 0));
        Due.is("no poem", Due.BAD, x.word(0, 10));
        Due.tell(x, "q0,1;1ta;2te;");
        Due.is("word 2", Due.BAD, x.word(2, 0));
        Due.is("a letter of word 2", Due.BAD, x.word(2, 10));
        for (int n : EdgesOfRows.NEVER) {
            Due.is("word " + n, Due.BAD, x.word(n, 0));
            Due.is("a letter of word " + n, Due.BAD, x.word(n, 10));
        }
        for (int what : new int[] {6, 7, 8, 9, -1, -10, Integer.MIN_VALUE}) {
            Due.is("what " + what, Due.BAD, x.word(0, what));
        }
    }

    private static void promise16Tells() {
        Edge.of("Promise 16", "Of a LINE: 0 how many WORDS, 1 its first WORD, 2 SYLLABLES, "
                + "3 its number in the SCHEME, 4 how many letters its TAIL has,");
        FeetAndRhymes x = Due.told("q0,1;1ta;2te,1ta,3banana,4abababab,1stone;5ta;2alone;");
        int[][] want = {{1, 0, 1, 0, 1}, {5, 1, 10, 1, 2}, {1, 6, 1, 0, 1}, {1, 7, 2, 1, 2}};
        for (int l = 0; l < 4; l++) {
            for (int what = 0; what < 5; what++) {
                Due.is("line " + l + ", " + what, want[l][what], x.line(l, what));
            }
        }
    }

    private static void promise16RunTogether() {
        Edge.of("Promise 16", "5 the WORDS in it that may run together with the next one (bits by their places);");
        FeetAndRhymes x = Due.told("q0,1;1o,1o,1o,1o,1o;1o;1no,1on,1no,1o,1on;");
        Due.is("all but the last", 15, x.line(0, 5));
        Due.is("one by itself, though the next line begins with a vowel", 0, x.line(1, 5));
        Due.is("no on; no o, o on", 13, x.line(2, 5));
        FeetAndRhymes y = Due.told("q0,1;1the,1eve,1o,1aloe,1u;1no;");
        Due.is("the eve; not eve o; o aloe, aloe u", 13, y.line(0, 5));
        Due.is("one by itself", 0, y.line(1, 5));
    }

    private static void promise16Letters() {
        Edge.of("Promise 16", "10 and i: letter i of the TAIL");
        FeetAndRhymes x = Due.told("q0,1;1abcdifgh;1za,1uz;");
        for (int i = 0; i < 8; i++) {
            Due.is("letter " + i, i == 4 ? 8 : i, x.line(0, 10 + i));
        }
        Due.is("u", 20, x.line(1, 10));
        Due.is("z", 25, x.line(1, 11));
    }

    private static void promise16None() {
        Edge.of("Promise 16", "(NONE: not so many).");
        FeetAndRhymes x = Due.told("q0,1;1abcdifgh;1stone;2te;");
        Due.is("a ninth of eight", Due.NONE, x.line(0, 18));
        Due.is("an e that is no run", Due.NONE, x.line(1, 12));
        Due.is("a second of one", Due.NONE, x.line(2, 11));
        Due.is("far off", Due.NONE, x.line(2, 1000));
        Due.is("as far as can be", Due.NONE, x.line(2, Integer.MAX_VALUE));
    }

    private static void promise16Bad() {
        Edge.of("Promise 16", "BAD.");
        FeetAndRhymes x = new FeetAndRhymes();
        Due.is("no poem", Due.BAD, x.line(0, 0));
        Due.is("no poem", Due.BAD, x.line(0, 10));
        Due.tell(x, "q0,1;1ta;2te;");
        Due.is("line 2", Due.BAD, x.line(2, 0));
        Due.is("a letter of line 2", Due.BAD, x.line(2, 10));
        for (int n : EdgesOfRows.NEVER) {
            Due.is("line " + n, Due.BAD, x.line(n, 0));
            Due.is("a letter of line " + n, Due.BAD, x.line(n, 10));
        }
        for (int what : new int[] {6, 7, 8, 9, -1, -10, Integer.MIN_VALUE}) {
            Due.is("what " + what, Due.BAD, x.line(0, what));
        }
    }

    private static void promise20Rhymes() {
        Edge.of("Promise 20", "Whether two LINES RHYME (1, 0).");
        FeetAndRhymes x = Due.told("q0,1;1stone;2alone;1ba;1ta;");
        for (int a = 0; a < 4; a++) {
            for (int b = 0; b < 4; b++) {
                Due.is("lines " + a + " and " + b, a / 2 == b / 2 ? 1 : 0, x.rhymes(a, b));
            }
        }
    }

    private static void promise20Bad() {
        Edge.of("Promise 20", "BAD.");
        FeetAndRhymes x = new FeetAndRhymes();
        Due.is("no poem", Due.BAD, x.rhymes(0, 0));
        Due.tell(x, "q0,1;1ta;2te;");
        Due.is("line 2", Due.BAD, x.rhymes(0, 2));
        Due.is("line 2 ahead", Due.BAD, x.rhymes(2, 0));
        Due.is("line 2 twice", Due.BAD, x.rhymes(2, 2));
        for (int n : EdgesOfRows.NEVER) {
            Due.is("line " + n, Due.BAD, x.rhymes(0, n));
            Due.is("line " + n + " ahead", Due.BAD, x.rhymes(n, 0));
        }
        Due.is("one and the same is no wrong number", 1, x.rhymes(1, 1));
    }
}
