/** Texts: the tape, tokens, faults; promises 1 and 6 to 8. */
final class EdgesOfTexts {
    private static final String LONGEST = "q0,1;1abababab,1abababab,1ababab,1ababab,1a;"
            + "1abababab,1abababab,1ababab,1ababab,1ababa;1abababab,1abababab,1abababab,1a;1abababab;";

    private EdgesOfTexts() { }

    static void all() {
        tape();
        letters();
        numbers();
        signs();
        poemIs();
        lawIs();
        lawNumbers();
        lineIs();
        fourLines();
        fiveWords();
        wordsLineByLine();
        wordIs();
        kindNumber();
        oneToEightLetters();
        vowelAtLeast();
        noVowelFault();
        inPlaceOfTheOneBefore();
        noActOfTheOneBefore();
        imagesAndRowsStay();
        lineTooMany();
        sixthWord();
        ninthLetter();
        firstToken();
        leastOfOneToken();
        cannotStandThere();
        threeFigures();
        theEnd();
        untoldNumber();
        threeAndFour();
        promises();
    }

    private static void promises() {
        promise1();
        promise6Comes();
        promise6Bad();
        promise6Full();
        promise7Reads();
        promise7Place();
        promise7Stays();
        promise8Latest();
        promise8Before();
    }

    private static void reads(String text, int lines) {
        FeetAndRhymes x = new FeetAndRhymes();
        Due.is("lines of " + text, lines, Due.tell(x, text));
        Due.same("poem of " + text, text, Due.poemOf(x));
        Due.is("no fault of " + text, 0, x.fault());
    }

    private static void faulty(String text, int place, int number) {
        FeetAndRhymes x = new FeetAndRhymes();
        Due.is("place of the fault of " + text, -1000100 - place, Due.tell(x, text));
        Due.is("fault of " + text, number, x.fault());
        Due.is("no poem by " + text, 0, x.count(2));
    }

    private static boolean isFigure(int b) {
        return b >= '0' && b <= '9';
    }

    private static boolean isLetter(int b) {
        return b >= 'a' && b <= 'z';
    }

    private static void tape() {
        Edge.of("Terms 1", "TEXTS: THE TAPE has at most 130 bytes, that come one by one");
        Due.is("as long as can be", 130, LONGEST.length());
        FeetAndRhymes x = new FeetAndRhymes();
        for (int i = 0; i < 130; i++) {
            Due.is("byte " + i, i + 1, x.feed(LONGEST.charAt(i)));
            Due.is("bytes there", i + 1, x.count(6));
        }
        Due.is("a 131st", Due.FULL, x.feed(';'));
        Due.is("bytes there", 130, x.count(6));
        Due.is("all are read", 4, x.poem());
        FeetAndRhymes y = new FeetAndRhymes();
        Due.is("the same", 4, Due.tell(y, LONGEST));
        Due.same("one by one, in this order", LONGEST, Due.poemOf(y));
    }

    private static void letters() {
        Edge.of("Terms 1", "TOKENS: letters a to z (each by itself)");
        for (int b = 0; b < 256; b++) {
            String text = "q0,1;1a" + (char) b + ";";
            if (isLetter(b)) {
                reads(text, 1);
            } else if (b == ',' || b == ';') {
                faulty(text, 8, 1);
            } else {
                faulty(text, 7, 1);
            }
        }
        // A letter more has a place of its own.
        faulty("qq0,1;1a;", 1, 1);
        faulty("q0,1;a1a;", 5, 1);
    }

    private static void numbers() {
        Edge.of("Terms 1", "NUMBERS (figures, 2 at most)");
        FeetAndRhymes x = new FeetAndRhymes();
        Due.is("two figures", 2, Due.tell(x, "q00,01;05a,04e;01i;"));
        Due.same("are one number", "q0,1;5a,4e;1i;", Due.poemOf(x));
        FeetAndRhymes y = new FeetAndRhymes();
        Due.is("one figure", 1, Due.tell(y, "q3,5;5a;"));
        Due.same("is a number", "q3,5;5a;", Due.poemOf(y));
        faulty("q000,1;1a;", 1, 1);
        faulty("q0,001;1a;", 3, 1);
        faulty("q0,1;001a;", 5, 1);
    }

    private static void signs() {
        Edge.of("Terms 1", "SIGNS , and ; nothing else.");
        for (int b = 0; b < 256; b++) {
            if (isFigure(b)) {
                continue;
            }
            char sign = (char) b;
            expect(b == ',', "q0" + sign + "1;1a;", 2);
            expect(b == ';', "q0,1" + sign + "1a;", 4);
            if (!isLetter(b) && b != ',' && b != ';') {
                faulty("q0,1;1a" + sign + "1a;", 7, 1);
                faulty("q0,1;" + sign + "1a;", 5, 1);
                faulty("q0,1;1" + sign + "a;", 6, 1);
            }
            faulty("q0,1;1a;" + sign, 8, 1);
            faulty(sign + "q0,1;1a;", b == 'q' ? 1 : 0, 1);
        }
    }

    private static void expect(boolean good, String text, int place) {
        if (good) {
            reads(text, 1);
        } else {
            faulty(text, place, 1);
        }
    }

    private static void poemIs() {
        Edge.of("Terms 1", "poem: law line { line }.");
        reads("q0,1;1a;", 1);
        reads("q0,1;1a;1a;", 2);
        reads("q0,1;1a;1a;1a;1a;", 4);
        faulty("q0,1;", 5, 1);
        faulty("1a;", 0, 1);
        faulty("1a;q0,1;", 0, 1);
        faulty("q0,1;q0,1;1a;", 5, 1);
        faulty("q0,1;1a;q0,1;", 8, 1);
    }

    private static void lawIs() {
        Edge.of("Terms 1", "law: q FOOT , FEET ;");
        reads("q0,1;1a;", 1);
        for (char c = 'a'; c <= 'z'; c++) {
            if (c != 'q') {
                faulty(c + "0,1;1a;", 0, 1);
            }
        }
        faulty("q", 1, 1);
        faulty("q,1;1a;", 1, 1);
        faulty("q;", 1, 1);
        faulty("q0;1;1a;", 2, 1);
        faulty("q0,;1a;", 3, 1);
        faulty("q0,1,1a;", 4, 1);
        faulty("q0,1", 4, 1);
    }

    private static void lawNumbers() {
        Edge.of("Terms 1", "(0 to 3; 1 to 5).");
        for (int n = 0; n < 100; n++) {
            if (n <= 3) {
                reads("q" + n + ",1;1a;", 1);
            } else {
                faulty("q" + n + ",1;1a;", 1, 2);
            }
            if (n >= 1 && n <= 5) {
                reads("q0," + n + ";1a;", 1);
            } else {
                faulty("q0," + n + ";1a;", 3, 2);
            }
        }
    }

    private static void lineIs() {
        Edge.of("Terms 1", "line: word { , word } ;");
        reads("q0,1;1a;", 1);
        reads("q0,1;1a,1a;", 1);
        faulty("q0,1;;", 5, 1);
        faulty("q0,1;,1a;", 5, 1);
        faulty("q0,1;1a,;", 8, 1);
        faulty("q0,1;1a,,1a;", 8, 1);
        faulty("q0,1;1a;;", 8, 1);
        faulty("q0,1;1a1a;", 7, 1);
        faulty("q0,1;1a", 7, 1);
    }

    private static void fourLines() {
        Edge.of("Terms 1", "(LINES 0 .. 3, 4 at most;");
        FeetAndRhymes x = Due.told("q0,1;1a;1a,1a;1a;1a;");
        Due.is("lines", 4, x.count(2));
        Due.is("line 0", 1, x.line(0, 0));
        Due.is("line 1", 2, x.line(1, 0));
        Due.is("line 3", 1, x.line(3, 0));
        Due.is("line 4", Due.BAD, x.line(4, 0));
        faulty("q0,1;1a;1a,1a;1a;1a;1a;", 20, 3);
    }

    private static void fiveWords() {
        Edge.of("Terms 1", "5 words a line at most;");
        reads("q0,1;1a,1a,1a,1a,1a;", 1);
        reads("q0,1;1a,1a,1a,1a,1a;1a,1a,1a,1a,1a;1a,1a,1a,1a,1a;1a,1a,1a,1a,1a;", 4);
        faulty("q0,1;1a,1a,1a,1a,1a,1a;", 19, 1);
    }

    private static void wordsLineByLine() {
        Edge.of("Terms 1", "WORDS 0, 1, .. are all words, line by line).");
        FeetAndRhymes x = Due.told("q0,1;1a,2e;3i;4o,5u,1ab,2eb,3ib;4ob,5ub;");
        int[] lines = {0, 0, 1, 2, 2, 2, 2, 2, 3, 3};
        int[] places = {0, 1, 0, 0, 1, 2, 3, 4, 0, 1};
        for (int w = 0; w < 10; w++) {
            Due.is("kind of word " + w, w % 5 + 1, x.kind(w));
            Due.is("first letter of word " + w, "aeiou".charAt(w % 5) - 'a', x.word(w, 10));
            Due.is("line of word " + w, lines[w], x.word(w, 0));
            Due.is("place of word " + w, places[w], x.word(w, 1));
        }
        Due.is("word 10", Due.BAD, x.kind(10));
        FeetAndRhymes full = Due.told("q0,1;1a,1a,1a,1a,1a;1a,1a,1a,1a,1a;1a,1a,1a,1a,1a;1a,1a,1a,1a,5za;");
        Due.is("twenty words", 20, full.count(1));
        Due.is("word 19 is in line 3", 3, full.word(19, 0));
        Due.is("kind of word 19", 5, full.kind(19));
        Due.is("word 20", Due.BAD, full.kind(20));
    }

    private static void wordIs() {
        Edge.of("Terms 1", "word: KIND LETTER { LETTER }");
        reads("q0,1;1a;", 1);
        reads("q0,1;1ab;", 1);
        faulty("q0,1;a;", 5, 1);
        faulty("q0,1;1;", 6, 1);
        faulty("q0,1;1", 6, 1);
        faulty("q0,1;1,1a;", 6, 1);
        faulty("q0,1;1a,a;", 8, 1);
        faulty("q0,1;1a,1;", 9, 1);
        faulty("q0,1;1a1;", 7, 1);
    }

    private static void kindNumber() {
        Edge.of("Terms 1", "(a NUMBER 1 to 5;");
        for (int n = 0; n < 100; n++) {
            if (n >= 1 && n <= 5) {
                reads("q0,1;" + n + "a;", 1);
                reads("q0,1;1a," + n + "a;", 1);
                reads("q0,1;1a;" + n + "a;", 2);
            } else {
                faulty("q0,1;" + n + "a;", 5, 2);
                faulty("q0,1;1a," + n + "a;", 8, 2);
                faulty("q0,1;1a;" + n + "a;", 8, 2);
            }
        }
    }

    private static void oneToEightLetters() {
        Edge.of("Terms 1", "letters a to z, 1 to 8;");
        String most = "azyxwvut";
        for (int n = 1; n <= 8; n++) {
            reads("q0,1;1" + most.substring(0, n) + ";", 1);
        }
        faulty("q0,1;1;", 6, 1);
        faulty("q0,1;1" + most + "s;", 14, 1);
    }

    private static void vowelAtLeast() {
        Edge.of("Terms 1", "one of the first 8 at least a vowel: a e i o u;");
        for (char c : "aeiou".toCharArray()) {
            String eight = "bcdfghj" + c;
            reads("q0,1;1" + c + ";", 1);
            reads("q0,1;1" + eight + ";", 1);
            reads("q0,1;1" + c + "bcdfghj;", 1);
            // The ninth letter is told, as the eighth is a vowel.
            faulty("q0,1;1" + eight + "k;", 14, 1);
        }
    }

    private static void noVowelFault() {
        Edge.of("Terms 1", "else FAULT 4 at its first letter).");
        for (char c = 'a'; c <= 'z'; c++) {
            if ("aeiou".indexOf(c) < 0) {
                faulty("q0,1;1" + c + ";", 6, 4);
                faulty("q0,1;1a,1a" + c + ",1" + c + ";", 13, 4);
                faulty("q0,1;1" + String.valueOf(c).repeat(8) + ";", 6, 4);
            }
        }
        faulty("q0,1;1bcdfghjka;", 6, 4);
        faulty("q0,1;1a;01bcd;", 10, 4);
    }

    private static void inPlaceOfTheOneBefore() {
        Edge.of("Terms 1", "A POEM that is read stands in place of the one before (none at first);");
        FeetAndRhymes x = new FeetAndRhymes();
        Due.is("none at first", 0, x.count(2));
        Due.is("none at first", 0, x.count(1));
        Due.is("none at first", Due.STATE, x.whole(0));
        Due.is("a poem", 3, Due.tell(x, "q3,5;1stone,2alone;3banana,4the,5to;1ba;"));
        Due.is("a lesser one", 1, Due.tell(x, "q1,2;4no;"));
        Due.same("stands in its place", "q1,2;4no;", Due.poemOf(x));
        Due.is("one word", 1, x.count(1));
        Due.is("no word 1", Due.BAD, x.kind(1));
        Due.is("no line 1", Due.BAD, x.line(1, 0));
        Due.is("two letters", 2, x.count(3));
        Due.is("one syllable", 1, x.count(4));
        Due.is("a larger one", 2, Due.tell(x, "q0,1;1a,1e;1i;"));
        Due.same("stands in its place", "q0,1;1a,1e;1i;", Due.poemOf(x));
    }

    private static void noActOfTheOneBefore() {
        Edge.of("Terms 1", "no ACT can be undone;");
        FeetAndRhymes x = Due.told("q0,1;1a;");
        x.become(0, 2);
        x.metre(1, 1);
        Due.is("two acts", 2, x.count(5));
        Due.is("another poem", 1, Due.tell(x, "q0,1;1e;"));
        Due.is("no act", 0, x.count(5));
        Due.is("none can be undone", Due.STATE, x.undo());
        Due.is("what it was", 1, x.become(0, 3));
        Due.is("an act of its own", 1, x.count(5));
        Due.is("is undone", 0, x.undo());
        Due.same("as it was read", "q0,1;1e;", Due.poemOf(x));
    }

    private static void imagesAndRowsStay() {
        Edge.of("Terms 1", "IMAGES and ROWS stay.");
        FeetAndRhymes x = Due.told("q0,1;1a;");
        Due.spell(x, 7, "stone");
        x.image(0);
        x.become(0, 5);
        x.image(1);
        Due.is("another poem", 1, Due.tell(x, "q2,3;4no,4no;"));
        Due.is("one row", 1, x.count(0));
        Due.is("its items", 2, x.put(0, 2, 1, 7, 5));
        Due.same("its items", "q2,3;4no,4no,1stone;", Due.poemOf(x));
        Due.is("an image", 1, x.restore(1));
        Due.same("as it was", "q0,1;5a;", Due.poemOf(x));
        Due.is("the other image", 1, x.restore(0));
        Due.same("as it was", "q0,1;1a;", Due.poemOf(x));
    }

    private static void lineTooMany() {
        Edge.of("Terms 1", "A line more than there is room for: FAULT 3 at its first NUMBER;");
        faulty("q0,1;1a;1a;1a;1a;1a;", 17, 3);
        faulty("q0,1;1a;1a;1a;1a;5", 17, 3);
        faulty("q0,1;1a;1a;1a;1a;05a,1a;", 17, 3);
        faulty("q0,1;1a;1a;1a;1a;1b;", 17, 3);
        faulty("q0,1;1a;1a;1a;1a;1a;1a;", 17, 3);
        faulty("q0,1;1a,1a,1a,1a,1a;1a,1a,1a,1a,1a;1a,1a,1a,1a,1a;1a,1a,1a,1a,1a;1a;", 65, 3);
        faulty("q0,1;1a;1a;1a;1a;,", 17, 1);
        faulty("q0,1;1a;1a;1a;1a;a;", 17, 1);
    }

    private static void sixthWord() {
        Edge.of("Terms 1", "a sixth word of a line: FAULT 1 at the , ahead of it;");
        faulty("q0,1;1a,1a,1a,1a,1a,1a;", 19, 1);
        faulty("q0,1;1a;1a,1a,1a,1a,1a,1a;", 22, 1);
        faulty("q0,1;1a;1a;1a;1a,1a,1a,1a,1a,1a;", 28, 1);
        faulty("q0,1;1a,1a,1a,1a,1a,0b;", 19, 1);
        faulty("q0,1;1ab,1ab,1ab,1ab,1ab,1ab;", 24, 1);
    }

    private static void ninthLetter() {
        Edge.of("Terms 1", "a ninth letter: FAULT 1 at it.");
        faulty("q0,1;1abcdefghi;", 14, 1);
        faulty("q0,1;1aaaaaaaaaaaa;", 14, 1);
        faulty("q0,1;1a,1bcdfghjaa;", 17, 1);
        faulty("q0,1;05aaaaaaaaa", 15, 1);
        reads("q0,1;1abcdefgh;", 1);
    }

    private static void firstToken() {
        Edge.of("Terms 1", "FAULTS, the first TOKEN that has one (its first byte),");
        faulty("q4,9;0b", 1, 2);
        faulty("q0,9;0b", 3, 2);
        faulty("q0,99;0b", 3, 2);
        faulty("q0,1;0b!", 5, 2);
        faulty("q0,1;66b!", 5, 2);
        faulty("q0,1;1b!", 6, 4);
        faulty("q0,1;1b", 6, 4);
        faulty("q0,1;1bcd9", 6, 4);
        faulty("q0,1;1b,0a;", 6, 4);
        faulty("q0,1;1a!b", 7, 1);
        faulty("q0,1;1a;1a;1a;1a?1a", 16, 1);
        faulty("!q4", 0, 1);
    }

    private static void leastOfOneToken() {
        Edge.of("Terms 1", "of one TOKEN the least:");
        faulty("q0,1;1a;1a;1a;1a;6a;", 17, 2);
        faulty("q0,1;1a;1a;1a;1a;0a;", 17, 2);
        faulty("q0,1;1a;1a;1a;1a;99a;", 17, 2);
        faulty("q0,1;1a;1a;1a;1a;111a;", 17, 1);
        faulty("q0,1;1a;1a;1a;1a;666a;", 17, 1);
        faulty("q444,1;1a;", 1, 1);
        faulty("q0,1;1a99;", 7, 1);
    }

    private static void cannotStandThere() {
        Edge.of("Terms 1", "1 it cannot stand there, or is none");
        faulty("q0a1;1a;", 2, 1);
        faulty(",0,1;1a;", 0, 1);
        faulty("0", 0, 1);
        faulty("q0,a;1a;", 3, 1);
        faulty("q0,1;1a 1a;", 7, 1);
        faulty("q0,1;1A;", 6, 1);
        faulty("q0,1;1\u00e9;", 6, 1);
        faulty("q0,1;1a\n;", 7, 1);
    }

    private static void threeFigures() {
        Edge.of("Terms 1", "(a run of three figures or more, at its first;");
        faulty("q000,1;1a;", 1, 1);
        faulty("q0,123;1a;", 3, 1);
        faulty("q0,1;123a;", 5, 1);
        faulty("q0,1;001", 5, 1);
        faulty("q0,1;1234567890a;", 5, 1);
        faulty("q0,1;1a,555a;", 8, 1);
        faulty("q0,1;1a;5555a;", 8, 1);
        faulty("q0,1;1a000;", 7, 1);
        faulty("1".repeat(130), 0, 1);
        faulty("q" + "0".repeat(129), 1, 1);
    }

    private static void theEnd() {
        Edge.of("Terms 1", "the end: how many bytes there are)");
        String text = "q0,1;1a,2ab;3ab,4e;";
        for (int n = 0; n < text.length(); n++) {
            String cut = text.substring(0, n);
            if (n == 12) {
                reads(cut, 1);
            } else {
                faulty(cut, n, 1);
            }
        }
        reads(text, 2);
    }

    private static void untoldNumber() {
        Edge.of("Terms 1", "2 a NUMBER that is not as told;");
        faulty("q4", 1, 2);
        faulty("q0,0", 3, 2);
        faulty("q0,6", 3, 2);
        faulty("q0,1;0", 5, 2);
        faulty("q0,1;6", 5, 2);
        faulty("q0,1;1a,10", 8, 2);
    }

    private static void threeAndFour() {
        Edge.of("Terms 1", "3 as told; 4 as told.");
        faulty("q0,1;1a;1a;1a;1a;1", 17, 3);
        faulty("q0,1;1a,1y;", 9, 4);
    }

    // ---- promises

    private static void promise1() {
        Edge.of("Promise 1", "No POEM.");
        FeetAndRhymes x = new FeetAndRhymes();
        for (int what = 0; what < 7; what++) {
            Due.is("count " + what, 0, x.count(what));
        }
        for (int what = 0; what < 8; what++) {
            Due.is("whole " + what, Due.STATE, x.whole(what));
        }
        Due.is("no word", Due.BAD, x.word(0, 0));
        Due.is("no line", Due.BAD, x.line(0, 0));
        Due.is("no image of it", Due.STATE, x.image(0));
        Due.is("none was kept", Due.STATE, x.restore(0));
        Due.is("no act", Due.STATE, x.undo());
        Due.is("no fault", 0, x.fault());
        Due.is("no trace", Due.NONE, x.trace(0));
        Due.is("no finding", 0, x.status());
        Due.is("nothing on the tape: a fault at 0", -1000100, x.poem());
    }

    private static void promise6Comes() {
        Edge.of("Promise 6", "A byte (0 to 255) comes behind the tape: how many it has.");
        FeetAndRhymes x = new FeetAndRhymes();
        Due.is("0", 1, x.feed(0));
        Due.is("255", 2, x.feed(255));
        Due.is("127", 3, x.feed(127));
        Due.is("128", 4, x.feed(128));
        Due.is("four", 4, x.count(6));
        Due.is("read", -1000100, x.poem());
        Due.is("the first again", 1, x.feed('q'));
    }

    private static void promise6Bad() {
        Edge.of("Promise 6", "BAD;");
        FeetAndRhymes x = new FeetAndRhymes();
        for (int b : new int[] {-1, 256, 'a' + 256, 'a' - 256, Integer.MIN_VALUE, Integer.MAX_VALUE}) {
            Due.is("byte " + b, Due.BAD, x.feed(b));
        }
        Due.is("none came", 0, x.count(6));
    }

    private static void promise6Full() {
        Edge.of("Promise 6", "FULL.");
        FeetAndRhymes x = new FeetAndRhymes();
        for (int i = 1; i <= 130; i++) {
            Due.is("byte " + i, i, x.feed('z'));
        }
        Due.is("one more", Due.FULL, x.feed('z'));
        Due.is("one more", Due.FULL, x.feed(0));
        Due.is("130 yet", 130, x.count(6));
        x.poem();
        Due.is("there is room again", 1, x.feed('z'));
    }

    private static void promise7Reads() {
        Edge.of("Promise 7", "The tape, empty then, is read: how many LINES there are.");
        FeetAndRhymes x = new FeetAndRhymes();
        Due.is("one line", 1, Due.tell(x, "q0,1;1a;"));
        Due.is("empty then", 0, x.count(6));
        Due.is("four lines", 4, Due.tell(x, "q0,1;1a;1a;1a;1a;"));
        Due.is("empty then", 0, x.count(6));
        Due.is("read again: there is nothing on it", -1000100, x.poem());
        Due.is("the poem stays", 4, x.count(2));
        Due.is("a fault", -1000101, Due.tell(x, "q!"));
        Due.is("empty then, too", 0, x.count(6));
    }

    private static void promise7Place() {
        Edge.of("Promise 7", "-1000100 less the place of a FAULT:");
        FeetAndRhymes x = new FeetAndRhymes();
        Due.is("place 0", -1000100, Due.tell(x, "!"));
        Due.is("place 1", -1000101, Due.tell(x, "q!"));
        String text = LONGEST.replace(",1a;1abababab;", ",1ab;1abababab");
        Due.is("130 bytes", 130, text.length());
        Due.is("place 130", -1000230, Due.tell(x, text));
        Due.is("place 129", -1000229, Due.tell(x, LONGEST.substring(0, 129)));
        Due.is("the last byte of 130", -1000229, Due.tell(new FeetAndRhymes(), LONGEST.substring(0, 129) + "!"));
    }

    private static void promise7Stays() {
        Edge.of("Promise 7", "all but the tape, and what fault() tells, stays.");
        FeetAndRhymes x = Due.told("q1,2;1ta,2ta;3ta;");
        Due.spell(x, 5, "stone");
        x.image(0);
        x.become(0, 5);
        x.metre(3, 3);
        x.ask(0, 1);
        x.set(5, 5, 0);
        for (String text : new String[] {"", "q0", "q0,1;1a", "q0,1;1a,1b;", "q0,1;1a;1a;1a;1a;1a;"}) {
            Due.is("a fault", 1, Due.tell(x, text) <= -1000100 ? 1 : 0);
            Due.same("the poem stays", "q3,3;5ta,2ta;3ta;", Due.poemOf(x));
            Due.is("the acts stay", 2, x.count(5));
            Due.is("the row stays", 1, x.count(0));
            Due.is("the trace stays", 23, x.trace(0));
            Due.is("the status stays", 2, x.status());
            Due.is("the tape is empty", 0, x.count(6));
        }
        Due.is("what fault() tells", 3, x.fault());
        Due.is("an act is undone", 1, x.undo());
        Due.is("the other one", 0, x.undo());
        Due.same("as it was", "q1,2;1ta,2ta;3ta;", Due.poemOf(x));
        Due.is("the image stays", 1, x.restore(0));
        Due.is("the items stay", 0, x.put(0, 0, 1, 5, 5));
        Due.same("the items stay", "1stone", Due.spelled(x, 0));
    }

    private static void promise8Latest() {
        Edge.of("Promise 8", "The number of the latest FAULT;");
        FeetAndRhymes x = new FeetAndRhymes();
        String[] texts = {"q9", "q0,1;1b;", "q", "q0,1;1a;1a;1a;1a;1a;", "q0,1;0"};
        int[] faults = {2, 4, 1, 3, 2};
        for (int i = 0; i < texts.length; i++) {
            Due.tell(x, texts[i]);
            Due.is("fault of " + texts[i], faults[i], x.fault());
        }
        Due.is("a good one", 1, Due.tell(x, "q0,1;1a;"));
        Due.is("has none: the latest is told", 2, x.fault());
    }

    private static void promise8Before() {
        Edge.of("Promise 8", "0 before one.");
        FeetAndRhymes x = new FeetAndRhymes();
        Due.is("at first", 0, x.fault());
        Due.is("a good one", 1, Due.tell(x, "q0,1;1a;"));
        Due.is("has none", 0, x.fault());
        Due.is("a call that is refused", Due.BAD, x.feed(256));
        Due.is("has none", 0, x.fault());
    }
}
