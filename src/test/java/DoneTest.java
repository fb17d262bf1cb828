/** Promises 9 to 16: acts and their undoing, words, lines. */
public final class DoneTest {
    public static void main(String[] args) {
        promise9();
        promise9Alone();
        promise9Forgets();
        fullPoem();
        promise10();
        promise11();
        promise12();
        promise13();
        promise14();
        promise15();
        promise16();
        Due.end();
    }

    private static void promise9() {
        String text = "q1,2;1ta,2te;3ti,4to;";
        FeetAndRhymes x = Due.told(text);
        Due.is("none", Due.STATE, x.undo());
        Due.spell(x, 0, "stone");
        x.become(1, 5);
        x.put(1, 1, 2, 0, 5);
        x.take(0);
        x.swap(0, 2);
        x.metre(3, 4);
        Due.same("all done", "q3,4;2stone;3ti,5te,4to;", Due.poemOf(x));
        Due.is("five", 5, x.count(5));
        Due.is("the metre", 4, x.undo());
        Due.same("undone", "q1,2;2stone;3ti,5te,4to;", Due.poemOf(x));
        Due.is("change of places", 3, x.undo());
        Due.same("undone", "q1,2;5te;3ti,2stone,4to;", Due.poemOf(x));
        Due.is("taken out", 2, x.undo());
        Due.same("undone", "q1,2;1ta,5te;3ti,2stone,4to;", Due.poemOf(x));
        Due.is("put in", 1, x.undo());
        Due.same("undone", "q1,2;1ta,5te;3ti,4to;", Due.poemOf(x));
        Due.is("of another kind", 0, x.undo());
        Due.same("undone", text, Due.poemOf(x));
        Due.is("none is left", Due.STATE, x.undo());
        x.metre(1, 2);
        x.swap(0, 1);
        x.swap(1, 0);
        Due.is("nothing became another: acts all the same", 3, x.count(5));
        Due.is("undone", 2, x.undo());
        Due.same("the first change of places stands", "q1,2;2te,1ta;3ti,4to;", Due.poemOf(x));
        Due.is("refusals are no acts", Due.STATE, x.become(0, 2));
        Due.is("nor is a taking that is refused", Due.BAD, x.take(4));
        Due.is("two yet", 2, x.count(5));
        Due.is("one more act", 2, x.become(0, 3));
        Due.is("is one more", 3, x.count(5));
    }

    /** Each act undone by itself, where its numbers are those of other words and lines, too. */
    private static void promise9Alone() {
        String text = "q1,2;1ta,2te;1ti,4to,5tu;2ba;3be,4bi;";
        for (int w = 0; w < 8; w++) {
            for (int k = 1; k <= 5; k++) {
                FeetAndRhymes x = Due.told(text);
                if (x.become(w, k) != Due.STATE) {
                    undone(x, text, "becoming " + k + " of " + w);
                }
            }
            FeetAndRhymes y = Due.told(text);
            if (y.take(w) != Due.STATE) {
                undone(y, text, "taking of " + w);
            }
            for (int other = 0; other < 8; other++) {
                FeetAndRhymes z = Due.told(text);
                if (z.swap(w, other) != Due.STATE) {
                    undone(z, text, "change of " + w + " and " + other);
                }
            }
        }
        int[] sizes = {2, 3, 1, 2};
        for (int l = 0; l < 4; l++) {
            for (int place = 0; place <= sizes[l]; place++) {
                FeetAndRhymes x = Due.told(text);
                Due.spell(x, 0, "stone");
                x.put(l, place, 3, 0, 5);
                undone(x, text, "putting in at " + place + " of " + l);
            }
        }
        FeetAndRhymes x = Due.told(text);
        x.metre(0, 1);
        undone(x, text, "another metre");
    }

    private static void undone(FeetAndRhymes x, String text, String what) {
        Due.is("an act: " + what, 1, x.count(5));
        Due.is("undone: " + what, 0, x.undo());
        Due.same("undone: " + what, text, Due.poemOf(x));
    }

    private static void promise9Forgets() {
        FeetAndRhymes x = Due.told("q0,1;1ta;");
        for (int i = 0; i < 30; i++) {
            x.metre(i % 4, i % 5 + 1);
            Due.is("acts kept", Math.min(24, i + 1), x.count(5));
        }
        for (int left = 23; left >= 0; left--) {
            Due.is("undone", left, x.undo());
            int at = left + 5;
            Due.is("foot", at % 4, x.whole(0));
            Due.is("feet", at % 5 + 1, x.whole(1));
        }
        Due.is("the oldest six are forgotten", Due.STATE, x.undo());
    }

    /** Promises 11 to 16 where there are as many lines and words as there can be. */
    private static void fullPoem() {
        String text = "q0,5;1a,1e,1i,1o,1u;2u,2o,2i,2e,2a;3ba,3be,3bi,3bo,3bu;4oa,4ab,4io,4e,4ua;";
        FeetAndRhymes x = Due.told(text);
        Due.is("words", 20, x.count(1));
        Due.is("all run together", 15, x.line(1, 5));
        Due.is("none runs together", 0, x.line(2, 5));
        Due.is("all but ab run together", 13, x.line(3, 5));
        Due.is("last place", 4, x.word(19, 1));
        Due.is("syllables of the last line", 5, x.line(3, 2));
        Due.is("tail of the last line", 2, x.line(3, 4));
        x.row(0, 0, 1);
        for (int l = 0; l < 4; l++) {
            Due.is("full", Due.FULL, x.put(l, 5, 1, 0, 1));
        }
        Due.is("from end to end", 20, x.swap(0, 19));
        undone(x, text, "change of the ends");
        for (int w = 0; w < 20; w++) {
            FeetAndRhymes y = Due.told(text);
            Due.is("four are left", 4, y.take(w));
            Due.is("one is less", Due.BAD, y.kind(19));
            undone(y, text, "taking of " + w + " of 20");
        }
        x.take(19);
        Due.is("put where it was", 19, x.put(3, 4, 1, 0, 1));
        Due.same("a at the end", text.replace("4ua;", "1a;"), Due.poemOf(x));
    }

    private static void promise10() {
        FeetAndRhymes x = new FeetAndRhymes();
        Due.is("no poem", Due.BAD, x.become(0, 1));
        Due.tell(x, "q0,1;1ta;2te;");
        Due.is("was 1", 1, x.become(0, 5));
        Due.is("is 5", 5, x.kind(0));
        Due.is("it is that", Due.STATE, x.become(0, 5));
        Due.is("was 2", 2, x.become(1, 4));
        Due.is("kind 0", Due.BAD, x.become(0, 0));
        Due.is("kind 6", Due.BAD, x.become(0, 6));
        Due.is("no word -1", Due.BAD, x.become(-1, 1));
        Due.is("no word 2", Due.BAD, x.become(2, 1));
        Due.is("two acts", 2, x.count(5));
    }

    private static void promise11() {
        FeetAndRhymes x = new FeetAndRhymes();
        x.row(0, 2, 8);
        Due.is("no poem", Due.BAD, x.put(0, 0, 1, 0, 1));
        Due.tell(x, "q0,1;1ta;2te,3ti;");
        Due.spell(x, 0, "stonesbe");
        Due.is("at the front of line 1", 1, x.put(1, 0, 4, 0, 8));
        Due.is("at the end of line 1", 4, x.put(1, 3, 5, 0, 3));
        Due.is("at the end of line 0", 1, x.put(0, 1, 1, 0, 4));
        Due.same("where they stand", "q0,1;1ta,1ston;4stonesbe,2te,3ti,5sto;", Due.poemOf(x));
        Due.is("no line -1", Due.BAD, x.put(-1, 0, 1, 0, 4));
        Due.is("no line 2", Due.BAD, x.put(2, 0, 1, 0, 4));
        Due.is("place -1", Due.BAD, x.put(0, -1, 1, 0, 4));
        Due.is("place 3", Due.BAD, x.put(0, 3, 1, 0, 4));
        Due.is("kind 0", Due.BAD, x.put(0, 0, 0, 0, 4));
        Due.is("kind 6", Due.BAD, x.put(0, 0, 6, 0, 4));
        Due.is("row 8", Due.BAD, x.put(0, 0, 1, 8, 4));
        Due.is("row -1", Due.BAD, x.put(0, 0, 1, -1, 4));
        Due.is("no letters", Due.BAD, x.put(0, 0, 1, 0, 0));
        Due.is("nine letters", Due.BAD, x.put(0, 0, 1, 0, 9));
        x.row(3, 1, 2);
        Due.is("status ahead", Due.NULL, x.put(0, 0, 1, 1, 4));
        Due.is("status NULL", 1, x.status());
        Due.is("too few items", Due.PLACE, x.put(0, 0, 1, 3, 3));
        Due.is("status PLACE", 2, x.status());
        x.set(3, 1, 26);
        Due.is("26 is no letter", Due.PLACE, x.put(0, 0, 1, 3, 2));
        x.set(3, 1, -1);
        Due.is("-1 is no letter", Due.PLACE, x.put(0, 0, 1, 3, 2));
        Due.is("it is not asked for", 0, x.put(0, 0, 1, 3, 1));
        Due.is("status 0", 0, x.status());
        x.drop(6);
        Due.is("no vowel", Due.STATE, x.put(0, 0, 1, 0, 2));
        Due.is("STATE leaves the status", 1, x.status());
        x.set(0, 0, 99);
        Due.is("PLACE goes ahead of STATE", Due.PLACE, x.put(0, 0, 1, 0, 2));
        x.set(0, 0, 18);
        x.put(1, 0, 1, 0, 3);
        Due.is("the line has 5", Due.FULL, x.put(1, 5, 1, 0, 3));
        Due.is("FULL goes ahead of NULL", Due.FULL, x.put(1, 5, 1, 1, 3));
        Due.is("FULL goes ahead of STATE", Due.FULL, x.put(1, 5, 1, 0, 2));
        Due.is("BAD goes ahead of FULL", Due.BAD, x.put(1, 6, 1, 0, 3));
        Due.is("FULL leaves the status", 0, x.status());
        x.set(0, 0, 25);
        Due.same("letters are the word's own", "q0,1;1a,1ta,1ston;1sto,4stonesbe,2te,3ti,5sto;", Due.poemOf(x));
        Due.is("z is a letter", 0, x.put(0, 0, 1, 0, 3));
        Due.is("z", 25, x.word(0, 10));
    }

    private static void promise12() {
        FeetAndRhymes x = new FeetAndRhymes();
        Due.is("no poem", Due.BAD, x.take(0));
        Due.tell(x, "q0,1;1ta,2te,3ti;4to,5tu;");
        Due.is("no word -1", Due.BAD, x.take(-1));
        Due.is("no word 5", Due.BAD, x.take(5));
        Due.is("two are left", 2, x.take(1));
        Due.is("one is left", 1, x.take(3));
        Due.same("what is left", "q0,1;1ta,3ti;4to;", Due.poemOf(x));
        Due.is("the only one", Due.STATE, x.take(2));
        Due.is("one is left", 1, x.take(0));
        Due.is("the only one", Due.STATE, x.take(0));
        Due.same("what is left", "q0,1;3ti;4to;", Due.poemOf(x));
    }

    private static void promise13() {
        FeetAndRhymes x = new FeetAndRhymes();
        Due.is("no poem", Due.BAD, x.swap(0, 1));
        Due.tell(x, "q0,1;1ta,2te;3ti,4stone;");
        Due.is("no word -1", Due.BAD, x.swap(-1, 0));
        Due.is("no word 4", Due.BAD, x.swap(0, 4));
        Due.is("one that is none", Due.BAD, x.swap(4, 4));
        Due.is("it is one", Due.STATE, x.swap(3, 3));
        Due.is("side by side", 2, x.swap(1, 2));
        Due.is("the ends, backwards", 4, x.swap(3, 0));
        Due.same("kinds and letters go along", "q0,1;4stone,3ti;2te,1ta;", Due.poemOf(x));
    }

    private static void promise14() {
        FeetAndRhymes x = new FeetAndRhymes();
        Due.is("no poem", Due.STATE, x.metre(0, 1));
        Due.is("no poem goes ahead of BAD", Due.STATE, x.metre(9, 9));
        Due.tell(x, "q3,5;1ta;");
        Due.is("what it was", 35, x.metre(0, 1));
        Due.is("what it was", 1, x.metre(2, 4));
        Due.is("the same again", 24, x.metre(2, 4));
        Due.is("foot -1", Due.BAD, x.metre(-1, 1));
        Due.is("foot 4", Due.BAD, x.metre(4, 1));
        Due.is("feet 0", Due.BAD, x.metre(0, 0));
        Due.is("feet 6", Due.BAD, x.metre(0, 6));
        Due.is("foot", 2, x.whole(0));
        Due.is("feet", 4, x.whole(1));
    }

    /** Of a word of a kind: how many syllables, the strong ones, those that are either. */
    private static void stress(String word, int syllables, int strong, int either) {
        FeetAndRhymes x = Due.told("q0,1;" + word + ";");
        Due.is("syllables of " + word, syllables, x.word(0, 3));
        Due.is("strong ones of " + word, strong, x.word(0, 4));
        Due.is("either ones of " + word, either, x.word(0, 5));
    }

    private static void promise15() {
        stress("1river", 2, 1, 0);
        stress("2alone", 2, 2, 0);
        stress("3banana", 3, 5, 0);
        stress("3abababab", 4, 5, 0);
        stress("2abababab", 4, 8, 0);
        stress("4abababab", 4, 0, 15);
        stress("5abababab", 4, 0, 0);
        stress("1the", 1, 1, 0);
        stress("1e", 1, 1, 0);
        stress("1ee", 1, 1, 0);
        stress("4eve", 1, 0, 1);
        stress("2eye", 1, 1, 0);
        stress("2aloe", 2, 2, 0);
        stress("2stone", 1, 1, 0);
        stress("2stony", 1, 1, 0);
        stress("2beauty", 1, 1, 0);
        stress("4ababe", 2, 0, 3);
        stress("4ababee", 3, 0, 7);
        stress("4ababo", 3, 0, 7);
        stress("4bcdfghje", 1, 0, 1);
        FeetAndRhymes x = new FeetAndRhymes();
        Due.is("no poem", Due.BAD, x.word(0, 0));
        Due.tell(x, "q0,1;1ta;2te,3zebra;");
        Due.is("line", 1, x.word(2, 0));
        Due.is("place", 1, x.word(2, 1));
        Due.is("place of the first", 0, x.word(1, 1));
        Due.is("letters", 5, x.word(2, 2));
        Due.is("letter z", 25, x.word(2, 10));
        Due.is("the last letter", 0, x.word(2, 14));
        Due.is("not so many", Due.NONE, x.word(2, 15));
        Due.is("far from so many", Due.NONE, x.word(2, Integer.MAX_VALUE));
        for (int what = 6; what < 10; what++) {
            Due.is("what " + what, Due.BAD, x.word(2, what));
        }
        Due.is("what -1", Due.BAD, x.word(2, -1));
        Due.is("no word -1", Due.BAD, x.word(-1, 0));
        Due.is("no word 3", Due.BAD, x.word(3, 10));
    }

    private static void tail(String word, String tail) {
        FeetAndRhymes x = Due.told("q0,1;5ta," + word + ";");
        StringBuilder got = new StringBuilder();
        for (int i = 0; i < x.line(0, 4); i++) {
            got.append((char) ('a' + x.line(0, 10 + i)));
        }
        Due.same("tail of " + word, tail, got.toString());
        Due.is("behind the tail", Due.NONE, x.line(0, 10 + tail.length()));
    }

    private static void promise16() {
        tail("1river", "iver");
        tail("2river", "er");
        tail("2alone", "on");
        tail("1alone", "alon");
        tail("5alone", "on");
        tail("4alone", "on");
        tail("3banana", "a");
        tail("1banana", "anana");
        tail("3bananas", "as");
        tail("3banan", "anan");
        tail("2aloe", "oe");
        tail("1the", "e");
        tail("1eye", "ey");
        tail("2beauty", "eauty");
        tail("3abababab", "abab");
        FeetAndRhymes x = new FeetAndRhymes();
        Due.is("no poem", Due.BAD, x.line(0, 0));
        Due.tell(x, "q0,1;1the,1idea,4of,5eve,2alone;2to,4aloe,3eye,4o,1in;1stone;");
        Due.is("words", 5, x.line(0, 0));
        Due.is("one word", 1, x.line(2, 0));
        Due.is("its first word", 5, x.line(1, 1));
        Due.is("its first word", 10, x.line(2, 1));
        Due.is("syllables: the i-dea of eve a-lone", 7, x.line(0, 2));
        Due.is("scheme of 0", 0, x.line(0, 3));
        Due.is("scheme of 1", 1, x.line(1, 3));
        Due.is("scheme of 2", 0, x.line(2, 3));
        Due.is("the idea, idea of; not of eve; not eve alone", 3, x.line(0, 5));
        Due.is("to aloe, aloe eye, o in; not eye o", 11, x.line(1, 5));
        Due.is("none by itself", 0, x.line(2, 5));
        for (int what = 6; what < 10; what++) {
            Due.is("what " + what, Due.BAD, x.line(0, what));
        }
        Due.is("what -1", Due.BAD, x.line(0, -1));
        Due.is("far behind the tail", Due.NONE, x.line(0, Integer.MAX_VALUE));
        Due.is("no line -1", Due.BAD, x.line(-1, 0));
        Due.is("no line 3", Due.BAD, x.line(3, 10));
    }
}
