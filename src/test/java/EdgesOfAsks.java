/** Kinds and asks: what the terms say of them, and promises 28 to 33. */
final class EdgesOfAsks {
    /** Words 0 to 4 are of kinds 1 to 5, word 9 is the last one. */
    private static final String TEXT = "q0,1;1river,2alone,3banana,4the,5idea;1a,2e,3i,4o,5abababab;";

    private EdgesOfAsks() { }

    static void all() {
        kindsOfWords();
        byThis();
        trace();
        sizes();
        marks();
        beginsByItsKind();
        anew();
        promise28();
        promise29();
        promise30();
        promise31();
        promise32();
        promise33();
    }

    private static void kindsOfWords() {
        Edge.of("Terms 3", "KINDS of WORDS: 0 WORD; 1 FIRST, a WORD; 2 LAST, a FIRST; 3 EVEN, a FIRST; "
                + "4 SMALL, a WORD; 5 MUTE, a SMALL.");
        FeetAndRhymes x = Due.told(TEXT);
        int[] also = {0, 3, 7, 11, 17, 49};
        for (int w = 0; w < 5; w++) {
            for (int k = 0; k <= 5; k++) {
                boolean is = (also[w + 1] >> k & 1) == 1;
                Due.is("word " + w + " as " + k, is ? w : Due.KIND, x.as(w, k));
            }
        }
    }

    private static void byThis() {
        Edge.of("Terms 3", "By this it is asked.");
        FeetAndRhymes x = Due.told(TEXT);
        Due.is("an EVEN has the size of a FIRST", 6 + 2 + 3 - 1000, x.ask(2, 0));
        Due.is("by that body", 11, x.trace(0));
        Due.is("a MUTE has the mark of a SMALL", 4 - 2 * (4 - 100), x.ask(4, 1));
        Due.is("by that body", 23, x.trace(0));
    }

    private static void asked(int word, int what, int answer, int... trace) {
        FeetAndRhymes x = Due.told(TEXT);
        String text = "ask " + what + " of word " + word;
        Due.is(text, answer, x.ask(word, what));
        for (int i = 0; i < trace.length; i++) {
            Due.is("trace " + i + " of " + text, trace[i], x.trace(i));
        }
        for (int i = trace.length; i <= 17; i++) {
            Due.is("behind the trace of " + text, Due.NONE, x.trace(i));
        }
    }

    private static void trace() {
        Edge.of("Terms 4", "ASKS of WORDS, by BODIES, each of which leaves its number in THE TRACE as it begins "
                + "(the first 16):");
        asked(1, 0, -(5 + 2 * (1 + 2)), 12, 11, 10, 24, 21, 20);
        asked(4, 1, 4 - 2 * (4 - 100), 23, 20, 14, 13, 10);
    }

    private static void sizes() {
        Edge.of("Terms 4", "0 SIZE: 10 lent to all WORDS: how many letters.");
        asked(3, 0, 3 - 100, 13, 10);
        asked(8, 0, 1 - 100, 13, 10);
        Edge.of("Terms 4", "11 of FIRST ones: what 10 gives, and MARK.");
        asked(0, 0, 5 + 0 + 2, 11, 10, 21, 20);
        asked(5, 0, 1 + 5 + 1, 11, 10, 21, 20);
        Edge.of("Terms 4", "12 of LAST ones: 0 less what 11 gives.");
        asked(1, 0, -(5 + 2 * (1 + 2)), 12, 11, 10, 24, 21, 20);
        asked(6, 0, -(1 + 2 * (6 + 1)), 12, 11, 10, 24, 21, 20);
        Edge.of("Terms 4", "13 of SMALL ones: what 10 gives, less 100.");
        asked(3, 0, -97, 13, 10);
        Edge.of("Terms 4", "14 of MUTE ones: twice what 13 gives (asked once).");
        asked(4, 0, -192, 14, 13, 10);
        asked(9, 0, -184, 14, 13, 10);
    }

    private static void marks() {
        Edge.of("Terms 4", "1 MARK: 20 lent to all WORDS: the number.");
        asked(0, 1, 0 + 2, 21, 20);
        asked(5, 1, 5 + 1, 21, 20);
        Edge.of("Terms 4", "21 of FIRST ones: what 20 gives, and how many SYLLABLES.");
        asked(0, 1, 2, 21, 20);
        Edge.of("Terms 4", "22 of EVEN ones: what 21 gives, less 1000.");
        asked(2, 1, 2 + 3 - 1000, 22, 21, 20);
        asked(7, 1, 7 + 1 - 1000, 22, 21, 20);
        Edge.of("Terms 4", "23 of SMALL ones: what 20 gives, less SIZE.");
        asked(3, 1, 3 - (3 - 100), 23, 20, 13, 10);
        asked(8, 1, 8 - (1 - 100), 23, 20, 13, 10);
        Edge.of("Terms 4", "24 of LAST ones: twice what 21 gives (asked once).");
        asked(1, 1, 2 * (1 + 2), 24, 21, 20);
        asked(6, 1, 2 * (6 + 1), 24, 21, 20);
    }

    private static void beginsByItsKind() {
        Edge.of("Terms 4", "(Of an ask the BODY told for the KIND begins, else that of the nearest KIND that it is, too, "
                + "else the one that is lent;");
        int[] size = {11, 12, 11, 13, 14};
        int[] mark = {21, 24, 22, 23, 23};
        FeetAndRhymes x = Due.told(TEXT);
        for (int w = 0; w < 10; w++) {
            x.ask(w, 0);
            Due.is("size of word " + w, size[w % 5], x.trace(0));
            x.ask(w, 1);
            Due.is("mark of word " + w, mark[w % 5], x.trace(0));
        }
        for (int k = 5; k >= 1; k--) {
            x.become(0, k);
            x.ask(0, 0);
            Due.is("size by kind " + k, size[k - 1], x.trace(0));
        }
    }

    private static void anew() {
        Edge.of("Terms 4", "SIZE, MARK within others are asked of the same WORD anew.)");
        // MARK within 11 is that of an EVEN, SIZE within 23 that of a MUTE.
        asked(2, 0, 6 + (2 + 3 - 1000), 11, 10, 22, 21, 20);
        asked(7, 0, 1 + (7 + 1 - 1000), 11, 10, 22, 21, 20);
        asked(4, 1, 4 + 192, 23, 20, 14, 13, 10);
        asked(9, 1, 9 + 184, 23, 20, 14, 13, 10);
    }

    // ---- promises

    private static void promise28() {
        Edge.of("Promise 28", "The KIND of a WORD, as told (1 to 5).");
        FeetAndRhymes x = Due.told(TEXT);
        for (int w = 0; w < 10; w++) {
            Due.is("kind of " + w, w % 5 + 1, x.kind(w));
        }
        Edge.of("Promise 28", "BAD.");
        Due.is("no poem", Due.BAD, new FeetAndRhymes().kind(0));
        Due.is("word 10", Due.BAD, x.kind(10));
        for (int n : EdgesOfRows.NEVER) {
            Due.is("word " + n, Due.BAD, x.kind(n));
        }
        x.take(9);
        Due.is("word 9 is no more", Due.BAD, x.kind(9));
        x.undo();
        Due.is("word 9 is there again", 5, x.kind(9));
    }

    private static void promise29() {
        Edge.of("Promise 29", "A WORD is taken as one of a KIND (0 .. 5): the WORD's number.");
        FeetAndRhymes x = Due.told(TEXT);
        for (int w = 0; w < 10; w++) {
            Due.is("word " + w + " as a WORD", w, x.as(w, 0));
            Due.is("word " + w + " as what it is", w, x.as(w, w % 5 + 1));
            Due.is("status 0", 0, x.status());
        }
        Edge.of("Promise 29", "BAD;");
        Due.is("no poem", Due.BAD, new FeetAndRhymes().as(0, 0));
        Due.is("word 10", Due.BAD, x.as(10, 0));
        Due.is("kind 6", Due.BAD, x.as(0, 6));
        for (int n : EdgesOfRows.NEVER) {
            Due.is("word " + n, Due.BAD, x.as(n, 0));
            Due.is("kind " + n, Due.BAD, x.as(0, n));
        }
        Edge.of("Promise 29", "KIND: it is no such one.");
        Due.is("a FIRST as a LAST", Due.KIND, x.as(0, 2));
        Due.is("status 3", 3, x.status());
        Due.is("a LAST as an EVEN", Due.KIND, x.as(1, 3));
        Due.is("a SMALL as a FIRST", Due.KIND, x.as(3, 1));
        Due.is("a SMALL as a MUTE", Due.KIND, x.as(3, 5));
        Due.is("a MUTE as a FIRST", Due.KIND, x.as(4, 1));
        Due.is("BAD leaves the status", Due.BAD, x.as(4, 6));
        Due.is("status 3", 3, x.status());
        Due.is("a MUTE as a SMALL", 4, x.as(4, 4));
        Due.is("status 0", 0, x.status());
    }

    private static void promise30() {
        Edge.of("Promise 30", "An ASK (0, 1) of a WORD.");
        FeetAndRhymes x = Due.told(TEXT);
        Due.is("size", 7, x.ask(0, 0));
        Due.is("mark", 2, x.ask(0, 1));
        Edge.of("Promise 30", "BAD.");
        Due.is("no poem", Due.BAD, new FeetAndRhymes().ask(0, 0));
        Due.is("word 10", Due.BAD, x.ask(10, 0));
        Due.is("ask 2", Due.BAD, x.ask(0, 2));
        for (int n : EdgesOfRows.NEVER) {
            Due.is("word " + n, Due.BAD, x.ask(n, 0));
            Due.is("ask " + n, Due.BAD, x.ask(0, n));
        }
        Edge.of("Promise 30", "THE TRACE is empty ahead of it");
        x.ask(1, 0);
        Due.is("six bodies", 20, x.trace(5));
        x.ask(3, 0);
        Due.is("two bodies: the first", 13, x.trace(0));
        Due.is("two bodies: the second", 10, x.trace(1));
        for (int i = 2; i < 8; i++) {
            Due.is("two bodies: no more", Due.NONE, x.trace(i));
        }
        Edge.of("Promise 30", "(where that is refused it stays).");
        x.ask(10, 0);
        x.ask(0, 2);
        x.ask(-1, -1);
        Due.is("the first", 13, x.trace(0));
        Due.is("the second", 10, x.trace(1));
        Due.is("no more", Due.NONE, x.trace(2));
    }

    private static void promise31() {
        Edge.of("Promise 31", "Number i of THE TRACE;");
        asked(1, 0, -11, 12, 11, 10, 24, 21, 20);
        Edge.of("Promise 31", "NONE.");
        FeetAndRhymes x = new FeetAndRhymes();
        Due.is("no ask yet", Due.NONE, x.trace(0));
        Due.tell(x, TEXT);
        x.ask(1, 0);
        Due.is("behind the sixth", Due.NONE, x.trace(6));
        for (int i : new int[] {-1, 15, 16, 17, Integer.MIN_VALUE, Integer.MAX_VALUE}) {
            Due.is("number " + i, Due.NONE, x.trace(i));
        }
    }

    private static void counts(FeetAndRhymes x, int... want) {
        for (int what = 0; what < want.length; what++) {
            Due.is("count " + what, want[what], x.count(what));
        }
    }

    private static void promise32() {
        Edge.of("Promise 32", "How many: 0 ROWS, 1 WORDS, 2 LINES, 3 letters of all WORDS, 4 SYLLABLES of all, "
                + "5 ACTS that can be undone, 6 bytes on the tape.");
        counts(new FeetAndRhymes(), 0, 0, 0, 0, 0, 0, 0);
        FeetAndRhymes x = Due.told(TEXT);
        counts(x, 0, 10, 2, 5 + 5 + 6 + 3 + 4 + 4 + 8, 2 + 2 + 3 + 1 + 2 + 4 + 4, 0, 0);
        for (int r = 0; r < 8; r++) {
            x.row(r, r % 3, r);
        }
        x.row(0, 2, 40);
        x.take(9);
        x.take(1);
        x.feed(0);
        counts(x, 8, 8, 2, 22, 12, 2, 1);
        x.drop(7);
        x.undo();
        x.poem();
        counts(x, 7, 9, 2, 27, 14, 1, 0);
        FeetAndRhymes full = Due.told("q0,1;1a,1a,1a,1a,1a;1a,1a,1a,1a,1a;1a,1a,1a,1a,1a;1a,1a,1a,1a,1abababab;");
        counts(full, 0, 20, 4, 27, 23, 0, 0);
        Edge.of("Promise 32", "BAD.");
        Due.is("what 7", Due.BAD, x.count(7));
        for (int n : EdgesOfRows.NEVER) {
            Due.is("what " + n, Due.BAD, x.count(n));
        }
    }

    private static void promise33() {
        promise33Latest();
        promise33Calls();
        promise33Left();
        promise33None();
    }

    private static void promise33Latest() {
        Edge.of("Promise 33", "Of the latest call with a ROW, or as(),");
        FeetAndRhymes x = Due.told("q0,1;1ta;2te,3ti;");
        x.drop(0);
        Due.is("drop", 1, x.status());
        x.row(0, 0, -1);
        Due.is("row", 4, x.status());
        x.row(0, 0, 2);
        x.set(0, 2, 0);
        Due.is("set", 2, x.status());
        x.as(0, 5);
        Due.is("as", 3, x.status());
        x.put(0, 0, 1, 1, 1);
        Due.is("put", 1, x.status());
        x.who(0, 0, 0, 1);
        Due.is("who", 2, x.status());
        x.row(1, 1, 2);
        x.copy(0, 0, 1, 0, 1);
        Due.is("copy", 5, x.status());
        Due.is("status itself leaves it", 5, x.status());
    }

    private static void promise33Calls() {
        FeetAndRhymes x = Due.told("q0,1;1ta;2te,3ti;");
        x.drop(0);
        x.feed('q');
        x.poem();
        x.fault();
        x.become(0, 2);
        x.take(1);
        x.swap(0, 1);
        x.metre(1, 1);
        x.undo();
        x.word(0, 0);
        x.line(0, 0);
        x.scan(0, 0, 1, 0);
        x.nearest(0, 0);
        x.whole(2);
        x.rhymes(0, 1);
        x.ends(0, 1);
        x.kinds(0, 0);
        x.stressed(0, 0, 0, 0);
        x.drawn(1, 1, 0);
        x.image(0);
        x.restore(0);
        x.kind(0);
        x.ask(0, 0);
        x.trace(0);
        x.count(0);
        Due.is("calls without a row leave it", 1, x.status());
        Due.is("another poem", 1, Due.tell(x, "q0,1;1ta;"));
        Due.is("a poem leaves it", 1, x.status());
    }

    private static void promise33Left() {
        Edge.of("Promise 33", "that was not BAD, STATE, FULL: the number of its FINDING;");
        FeetAndRhymes x = Due.told("q0,1;1ta;2te,3ti,2te,3ti,2te;");
        x.row(1, 0, 1);
        x.set(1, 0, 1);
        x.as(0, 5);
        x.row(8, 0, 0);
        x.row(0, 0, 41);
        x.set(8, 0, 0);
        x.copy(1, 0, 8, 0, 0);
        x.drop(8);
        x.as(9, 0);
        x.as(0, 6);
        x.put(0, 0, 0, 1, 1);
        x.who(9, 0, 1, 0);
        x.who(0, 3, 1, 0);
        Due.is("BAD leaves it", 3, x.status());
        Due.is("no vowel", Due.STATE, x.put(0, 0, 1, 1, 1));
        Due.is("STATE leaves it", 3, x.status());
        Due.is("the line has 5", Due.FULL, x.put(1, 0, 1, 1, 1));
        Due.is("FULL leaves it", 3, x.status());
    }

    private static void promise33None() {
        Edge.of("Promise 33", "0: it had none, or there was none.");
        Due.is("there was none", 0, new FeetAndRhymes().status());
        FeetAndRhymes x = Due.told("q0,1;1ta;");
        Due.is("there was none", 0, x.status());
        x.drop(7);
        x.row(0, 0, 2);
        Due.is("row had none", 0, x.status());
        x.drop(7);
        x.set(0, 0, 0);
        Due.is("set had none", 0, x.status());
        x.drop(7);
        x.copy(0, 0, 0, 1, 1);
        Due.is("copy had none", 0, x.status());
        x.drop(7);
        x.put(0, 0, 1, 0, 1);
        Due.is("put had none", 0, x.status());
        x.drop(7);
        x.who(0, 0, 0, 0);
        Due.is("who had none", 0, x.status());
        x.drop(7);
        x.as(0, 0);
        Due.is("as had none", 0, x.status());
        x.drop(7);
        x.drop(0);
        Due.is("drop had none", 0, x.status());
    }
}
