import java.util.ArrayList;
import java.util.List;

/** Acts and their undoing: what the terms say of them, and promises 9 to 14. */
final class EdgesOfActs {
    private EdgesOfActs() { }

    static void all() {
        twentyFour();
        oldestForgotten();
        latestFirst();
        nothingBecomesAnother();
        sorts();
        promise9Undone();
        promise9None();
        promise10Was();
        promise10Bad();
        promise10State();
        promise11Place();
        promise11Letters();
        promise11Number();
        promise11Bad();
        promise11Full();
        promise11Null();
        promise11PlaceFound();
        promise11State();
        promise12Left();
        promise12Bad();
        promise12State();
        promise13Stand();
        promise13Bad();
        promise13State();
        promise14Was();
        promise14Bad();
        promise14State();
    }

    private static void twentyFour() {
        Edge.of("Terms 2", "ACTS (24 at most are kept,");
        FeetAndRhymes x = Due.told("q0,1;1ta;");
        for (int i = 1; i <= 60; i++) {
            Due.is("act " + i, i == 1 ? 1 : 23, x.metre(2, 3));
            Due.is("kept behind act " + i, Math.min(i, 24), x.count(5));
        }
        for (int left = 23; left >= 0; left--) {
            Due.is("undone", left, x.undo());
        }
        Due.is("no more than 24", Due.STATE, x.undo());
    }

    private static void oldestForgotten() {
        Edge.of("Terms 2", "of more the oldest is forgotten;");
        for (int acts : new int[] {23, 24, 25, 26, 47, 48, 49, 72, 73}) {
            FeetAndRhymes x = Due.told("q0,1;1ta;");
            List<Integer> past = new ArrayList<>();
            int now = 1;
            for (int i = 0; i < acts; i++) {
                past.add(now);
                Due.is("act " + i, now, x.metre(i % 4, i % 5 + 1));
                now = 10 * (i % 4) + i % 5 + 1;
            }
            unwind(x, past);
        }
        // Some are undone, and more follow than there is room for.
        FeetAndRhymes x = Due.told("q0,1;1ta;");
        List<Integer> past = new ArrayList<>();
        int now = 1;
        for (int i = 0; i < 90; i++) {
            if (i % 9 == 8) {
                now = past.remove(past.size() - 1);
                Due.is("undone by call " + i, Math.min(23, past.size()), x.undo());
            } else {
                past.add(now);
                Due.is("act of call " + i, now, x.metre(i % 4, i % 5 + 1));
                now = 10 * (i % 4) + i % 5 + 1;
            }
            while (past.size() > 24) {
                past.remove(0);
            }
        }
        unwind(x, past);
    }

    private static void unwind(FeetAndRhymes x, List<Integer> past) {
        int left = Math.min(24, past.size());
        Due.is("acts kept of " + past.size(), left, x.count(5));
        for (int at = past.size() - 1; left > 0; at--) {
            left--;
            Due.is("undone of " + past.size(), left, x.undo());
            Due.is("metre at " + at, past.get(at), 10 * x.whole(0) + x.whole(1));
        }
        Due.is("the oldest are forgotten", Due.STATE, x.undo());
    }

    private static void latestFirst() {
        Edge.of("Terms 2", "each can be undone, the latest first;");
        FeetAndRhymes x = Due.told("q0,1;1a;");
        Due.spell(x, 0, "abababab");
        List<String> past = new ArrayList<>();
        for (int i = 0; i < 30; i++) {
            past.add(short1(x));
            if (i % 9 < 4) {
                Due.is("put " + i, 0, x.put(0, 0, i % 5 + 1, 0, i % 8 + 1));
            } else if (i % 9 < 8) {
                Due.is("take " + i, 8 - i % 9, x.take(i % 2));
            } else {
                x.become(0, x.kind(0) % 5 + 1);
            }
        }
        for (int i = 29; i >= 6; i--) {
            Due.is("undone", i - 6, x.undo());
            Due.same("as it was ahead of act " + i, past.get(i), short1(x));
        }
        Due.is("no more", Due.STATE, x.undo());
    }

    /** Kinds and lengths of the words of line 0, by few calls. */
    private static String short1(FeetAndRhymes x) {
        StringBuilder text = new StringBuilder();
        int n = x.count(1);
        for (int w = 0; w < n; w++) {
            text.append(x.kind(w)).append('.').append(x.word(w, 2)).append(' ');
        }
        return text.toString();
    }

    private static void nothingBecomesAnother() {
        Edge.of("Terms 2", "also such by which nothing becomes another):");
        FeetAndRhymes x = Due.told("q1,2;1ta,1ta;2te;");
        Due.is("the metre that it is", 12, x.metre(1, 2));
        Due.is("an act", 1, x.count(5));
        Due.is("two words alike change places", 2, x.swap(0, 1));
        Due.is("an act", 2, x.count(5));
        Due.is("what it was", 2, x.become(2, 5));
        Due.is("an act", 3, x.count(5));
        Due.is("undone", 2, x.undo());
        Due.same("by this one", "q1,2;1ta,1ta;2te;", Due.poemOf(x));
        Due.is("undone", 1, x.undo());
        Due.is("undone", 0, x.undo());
        Due.same("nothing by these", "q1,2;1ta,1ta;2te;", Due.poemOf(x));
        Due.is("none", Due.STATE, x.undo());
    }

    private static void sorts() {
        Edge.of("Terms 2", "a WORD is of another KIND; a WORD is put in; taken out; two change places; "
                + "the METRE is another.");
        String text = "q1,2;1ta,2te;3ti,4to;";
        FeetAndRhymes x = Due.told(text);
        Due.spell(x, 0, "stone");
        String[] behind = {text, "q1,2;1ta,5te;3ti,4to;", "q1,2;1ta,5te;3ti,2stone,4to;", "q1,2;5te;3ti,2stone,4to;",
            "q1,2;2stone;3ti,5te,4to;", "q3,4;2stone;3ti,5te,4to;"};
        Due.is("another kind", 2, x.become(1, 5));
        Due.same("done", behind[1], Due.poemOf(x));
        Due.is("put in", 3, x.put(1, 1, 2, 0, 5));
        Due.same("done", behind[2], Due.poemOf(x));
        Due.is("taken out", 1, x.take(0));
        Due.same("done", behind[3], Due.poemOf(x));
        Due.is("change of places", 3, x.swap(0, 2));
        Due.same("done", behind[4], Due.poemOf(x));
        Due.is("another metre", 12, x.metre(3, 4));
        Due.same("done", behind[5], Due.poemOf(x));
        for (int left = 4; left >= 0; left--) {
            Due.is("undone", left, x.undo());
            Due.same("undone", behind[left], Due.poemOf(x));
        }
        // What is foretold, kept, asked or refused is no act.
        x.image(0);
        x.kinds(0, 0);
        x.drawn(20, 1, 0);
        x.ask(0, 0);
        x.row(1, 0, 3);
        x.become(0, 1);
        Due.is("no act of these", 0, x.count(5));
    }

    private static void promise9Undone() {
        Edge.of("Promise 9", "The latest ACT is undone: how many can be undone yet.");
        FeetAndRhymes x = Due.told("q0,1;1ta;");
        x.become(0, 2);
        x.become(0, 3);
        x.become(0, 4);
        Due.is("two yet", 2, x.undo());
        Due.is("the latest", 3, x.kind(0));
        Due.is("one yet", 1, x.undo());
        Due.is("the one before", 2, x.kind(0));
        Due.is("a new one", 2, x.become(0, 5));
        Due.is("one yet", 1, x.undo());
        Due.is("the new one", 2, x.kind(0));
        Due.is("none yet", 0, x.undo());
        Due.is("as it was", 1, x.kind(0));
    }

    private static void promise9None() {
        Edge.of("Promise 9", "STATE: none.");
        FeetAndRhymes x = new FeetAndRhymes();
        Due.is("no poem", Due.STATE, x.undo());
        Due.tell(x, "q0,1;1ta;");
        Due.is("no act", Due.STATE, x.undo());
        x.become(0, 2);
        x.undo();
        Due.is("no act more", Due.STATE, x.undo());
        Due.is("nothing is done again", 1, x.kind(0));
    }

    private static void promise10Was() {
        Edge.of("Promise 10", "A WORD is of another KIND (1 to 5): what it was.");
        FeetAndRhymes x = Due.told("q0,1;1ta;2te,3ti;");
        int was = 3;
        for (int kind : new int[] {1, 5, 4, 2, 3, 5, 1}) {
            Due.is("what it was", was, x.become(2, kind));
            Due.is("what it is", kind, x.kind(2));
            was = kind;
        }
        Due.same("no other word", "q0,1;1ta;2te,1ti;", Due.poemOf(x));
    }

    private static void promise10Bad() {
        Edge.of("Promise 10", "BAD;");
        FeetAndRhymes x = new FeetAndRhymes();
        Due.is("no poem", Due.BAD, x.become(0, 1));
        Due.tell(x, "q0,1;1ta;2te,3ti;");
        Due.is("word 3", Due.BAD, x.become(3, 1));
        Due.is("kind 0", Due.BAD, x.become(0, 0));
        Due.is("kind 6", Due.BAD, x.become(0, 6));
        for (int n : EdgesOfRows.NEVER) {
            Due.is("word " + n, Due.BAD, x.become(n, 1));
            Due.is("kind " + n, Due.BAD, x.become(0, n));
        }
        Due.is("no act", 0, x.count(5));
    }

    private static void promise10State() {
        Edge.of("Promise 10", "STATE: it is that.");
        FeetAndRhymes x = Due.told("q0,1;1ta,2ta,3ta,4ta,5ta;");
        for (int w = 0; w < 5; w++) {
            Due.is("kind " + (w + 1), Due.STATE, x.become(w, w + 1));
        }
        Due.is("no act", 0, x.count(5));
    }

    private static void promise11Place() {
        Edge.of("Promise 11", "A WORD of a KIND comes into a LINE at a place (0 to how many it has),");
        String[] due = {"q0,1;1ta;5a,2te,3ti;4to;", "q0,1;1ta;2te,5a,3ti;4to;", "q0,1;1ta;2te,3ti,5a;4to;"};
        for (int place = 0; place <= 2; place++) {
            FeetAndRhymes x = Due.told("q0,1;1ta;2te,3ti;4to;");
            x.row(0, 0, 1);
            Due.is("at place " + place, 1 + place, x.put(1, place, 5, 0, 1));
            Due.same("at place " + place, due[place], Due.poemOf(x));
        }
        FeetAndRhymes x = Due.told("q0,1;1ta;2te,3ti;4to;");
        x.row(0, 0, 1);
        Due.is("place 3 of two", Due.BAD, x.put(1, 3, 5, 0, 1));
        Due.is("place -1", Due.BAD, x.put(1, -1, 5, 0, 1));
    }

    private static void promise11Letters() {
        Edge.of("Promise 11", "its letters as n ITEMS (1 to 8) of a ROW from 0 on (0 a, 1 b, .. 25 z)");
        for (int lane = 0; lane < 3; lane++) {
            FeetAndRhymes x = Due.told("q0,1;1ta;");
            x.row(0, lane, 40);
            String letters = "abczyxeo";
            for (int i = 0; i < 8; i++) {
                x.set(0, i, letters.charAt(i) - 'a');
            }
            for (int n = 1; n <= 8; n++) {
                Due.is("of " + n, 0, x.put(0, 0, 1, 0, n));
                Due.same("of " + n, "1" + letters.substring(0, n), Due.spelled(x, 0));
                x.undo();
            }
            // The word's letters are its own from then on.
            x.put(0, 0, 1, 0, 3);
            x.set(0, 0, 25);
            Due.same("as it was", "1abc", Due.spelled(x, 0));
            x.drop(0);
            Due.same("as it was", "1abc", Due.spelled(x, 0));
        }
    }

    private static void promise11Number() {
        Edge.of("Promise 11", ": its number.");
        FeetAndRhymes x = Due.told("q0,1;1ta,1ta;1ta;1ta,1ta,1ta;1ta;");
        x.row(0, 0, 1);
        Due.is("the last of the last line", 7, x.put(3, 1, 5, 0, 1));
        Due.is("the first of the last line", 6, x.put(3, 0, 5, 0, 1));
        Due.is("the last of line 2", 6, x.put(2, 3, 5, 0, 1));
        Due.is("the first of line 2", 3, x.put(2, 0, 5, 0, 1));
        Due.is("the first of all", 0, x.put(0, 0, 5, 0, 1));
        Due.same("where they stand", "q0,1;5a,1ta,1ta;1ta;5a,1ta,1ta,1ta,5a;5a,1ta,5a;", Due.poemOf(x));
        Due.is("words", 12, x.count(1));
        FeetAndRhymes full = Due.told("q0,1;1ta,1ta,1ta,1ta,1ta;1ta,1ta,1ta,1ta,1ta;1ta,1ta,1ta,1ta,1ta;1ta,1ta,1ta,1ta;");
        full.row(0, 0, 1);
        Due.is("a twentieth word", 19, full.put(3, 4, 5, 0, 1));
        Due.is("undone", 0, full.undo());
        Due.is("a twentieth word ahead of the last", 18, full.put(3, 3, 5, 0, 1));
        Due.is("its kind", 5, full.kind(18));
        Due.is("the last one", 1, full.kind(19));
        Due.is("undone", 0, full.undo());
        Due.is("the last one", 1, full.kind(18));
        Due.is("no twentieth", Due.BAD, full.kind(19));
    }

    private static void promise11Bad() {
        Edge.of("Promise 11", "BAD: LINE, place, KIND, ROW, n;");
        FeetAndRhymes x = new FeetAndRhymes();
        x.row(0, 0, 10);
        Due.is("no poem", Due.BAD, x.put(0, 0, 1, 0, 1));
        Due.tell(x, "q0,1;1ta;1ta,1ta;");
        Due.is("line 2", Due.BAD, x.put(2, 0, 1, 0, 1));
        Due.is("place 2 of one", Due.BAD, x.put(0, 2, 1, 0, 1));
        Due.is("place 3 of two", Due.BAD, x.put(1, 3, 1, 0, 1));
        Due.is("kind 0", Due.BAD, x.put(0, 0, 0, 0, 1));
        Due.is("kind 6", Due.BAD, x.put(0, 0, 6, 0, 1));
        Due.is("row 8", Due.BAD, x.put(0, 0, 1, 8, 1));
        Due.is("n 0", Due.BAD, x.put(0, 0, 1, 0, 0));
        Due.is("n 9", Due.BAD, x.put(0, 0, 1, 0, 9));
        for (int n : EdgesOfRows.NEVER) {
            Due.is("line " + n, Due.BAD, x.put(n, 0, 1, 0, 1));
            Due.is("place " + n, Due.BAD, x.put(0, n, 1, 0, 1));
            Due.is("kind " + n, Due.BAD, x.put(0, 0, n, 0, 1));
            Due.is("row " + n, Due.BAD, x.put(0, 0, 1, n, 1));
            Due.is("n " + n, Due.BAD, x.put(0, 0, 1, 0, n));
        }
        Due.is("status stays", 0, x.status());
        Due.is("no word came", 3, x.count(1));
    }

    private static void promise11Full() {
        Edge.of("Promise 11", "FULL: the LINE has 5;");
        FeetAndRhymes x = Due.told("q0,1;1ta;1ta,1ta,1ta,1ta;");
        x.row(0, 0, 1);
        Due.is("a fifth", 5, x.put(1, 4, 1, 0, 1));
        for (int place = 0; place <= 5; place++) {
            Due.is("a sixth at " + place, Due.FULL, x.put(1, place, 1, 0, 1));
        }
        Due.is("place 6", Due.BAD, x.put(1, 6, 1, 0, 1));
        Due.is("the other line has room", 1, x.put(0, 1, 1, 0, 1));
        Due.is("one is taken out", 4, x.take(2));
        Due.is("there is room again", 2, x.put(1, 0, 1, 0, 1));
        Due.is("and none again", Due.FULL, x.put(1, 0, 1, 0, 1));
        Due.is("status 0", 0, x.status());
    }

    private static void promise11Null() {
        Edge.of("Promise 11", "NULL;");
        FeetAndRhymes x = Due.told("q0,1;1ta;");
        Due.is("never there", Due.NULL, x.put(0, 0, 1, 7, 1));
        Due.is("status 1", 1, x.status());
        Due.is("no word came", 1, x.count(1));
        Due.is("no act", 0, x.count(5));
        x.row(7, 0, 1);
        Due.is("there", 0, x.put(0, 0, 1, 7, 1));
        Due.is("status 0", 0, x.status());
    }

    private static void promise11PlaceFound() {
        Edge.of("Promise 11", "PLACE (an ITEM that is no letter, too);");
        FeetAndRhymes x = Due.told("q0,1;1ta;");
        x.row(0, 2, 3);
        Due.is("four of three", Due.PLACE, x.put(0, 0, 1, 0, 4));
        Due.is("status 2", 2, x.status());
        Due.is("three of three", 0, x.put(0, 0, 1, 0, 3));
        Due.is("status 0", 0, x.status());
        x.row(1, 2, 0);
        Due.is("one of none", Due.PLACE, x.put(0, 0, 1, 1, 1));
        for (int v : new int[] {26, -1, 97, 256, Integer.MIN_VALUE, Integer.MAX_VALUE}) {
            for (int i = 0; i < 3; i++) {
                x.row(0, 2, 3);
                x.set(0, i, v);
                Due.is("item " + i + " is " + v, Due.PLACE, x.put(0, 0, 1, 0, 3));
                Due.is("ahead of it", i == 0 ? Due.PLACE : 0, x.put(0, 0, 1, 0, Math.max(1, i)));
                if (i > 0) {
                    x.undo();
                }
            }
        }
        x.row(0, 2, 3);
        x.set(0, 2, 25);
        Due.is("25 is a letter", 0, x.put(0, 0, 1, 0, 3));
        Due.same("25 is z", "1aaz", Due.spelled(x, 0));
    }

    private static void promise11State() {
        Edge.of("Promise 11", "STATE (behind these): no vowel.");
        FeetAndRhymes x = Due.told("q0,1;1ta;");
        x.row(0, 0, 9);
        for (int letter = 0; letter < 26; letter++) {
            boolean vowel = "aeiou".indexOf('a' + letter) >= 0;
            for (int i = 0; i < 9; i++) {
                x.set(0, i, i == 8 ? 0 : letter);
            }
            Due.is("letter " + letter, vowel ? 0 : Due.STATE, x.put(0, 0, 1, 0, 8));
            if (vowel) {
                x.undo();
            }
        }
        x.set(0, 7, 4);
        Due.is("the vowel is not asked for", Due.STATE, x.put(0, 0, 1, 0, 7));
        Due.is("the vowel is the eighth", 0, x.put(0, 0, 1, 0, 8));
        x.set(0, 0, 26);
        Due.is("behind PLACE", Due.PLACE, x.put(0, 0, 1, 0, 7));
        Due.is("status 2", 2, x.status());
        x.set(0, 0, 1);
        x.drop(7);
        Due.is("no vowel", Due.STATE, x.put(0, 0, 1, 0, 7));
        Due.is("it leaves the status", 1, x.status());
    }

    private static void promise12Left() {
        Edge.of("Promise 12", "A WORD is taken out: how many its LINE has then.");
        FeetAndRhymes x = Due.told("q0,1;1ta,2te;3ti,4to,5tu,1ba,2be;3bi;");
        Due.is("the last of five", 4, x.take(6));
        Due.is("the first of four", 3, x.take(2));
        Due.is("one in the midst", 2, x.take(3));
        Due.is("the last of two", 1, x.take(3));
        Due.is("the first of two", 1, x.take(0));
        Due.same("what is left", "q0,1;2te;4to;3bi;", Due.poemOf(x));
        Due.is("five acts", 5, x.count(5));
        for (int w = 0; w < 20; w++) {
            FeetAndRhymes full = Due.told("q0,1;1a,2a,3a,4a,5a;1e,2e,3e,4e,5e;1i,2i,3i,4i,5i;1o,2o,3o,4o,5o;");
            Due.is("word " + w + " of twenty", 4, full.take(w));
            Due.is("there is no twentieth then", Due.BAD, full.kind(19));
            Due.is("the next one has its number", w == 19 ? Due.BAD : (w + 1) % 5 + 1, full.kind(w));
            Due.is("undone", 0, full.undo());
            Due.is("it is there again", w % 5 + 1, full.kind(w));
            Due.is("the last is there again", 5, full.kind(19));
        }
    }

    private static void promise12Bad() {
        Edge.of("Promise 12", "BAD;");
        FeetAndRhymes x = new FeetAndRhymes();
        Due.is("no poem", Due.BAD, x.take(0));
        Due.tell(x, "q0,1;1ta,2te;");
        Due.is("word 2", Due.BAD, x.take(2));
        for (int n : EdgesOfRows.NEVER) {
            Due.is("word " + n, Due.BAD, x.take(n));
        }
        Due.is("one is left", 1, x.take(1));
        Due.is("word 1 is no more", Due.BAD, x.take(1));
    }

    private static void promise12State() {
        Edge.of("Promise 12", "STATE: it is the only one of its LINE.");
        FeetAndRhymes x = Due.told("q0,1;1ta;2te,3ti;4to;");
        Due.is("of the first line", Due.STATE, x.take(0));
        Due.is("of the last line", Due.STATE, x.take(3));
        Due.is("of two", 1, x.take(1));
        Due.is("the other of two", Due.STATE, x.take(1));
        Due.same("a line is never empty", "q0,1;1ta;3ti;4to;", Due.poemOf(x));
        Due.is("one act", 1, x.count(5));
    }

    private static void promise13Stand() {
        Edge.of("Promise 13", "Two WORDS change places: how many stand from the one to the other (both, too).");
        FeetAndRhymes x = Due.told("q0,1;1a,2eb,3ibi,4o;5u,1ba,2be,3bi,4bo;");
        Due.is("side by side", 2, x.swap(0, 1));
        Due.is("of two lines", 2, x.swap(4, 3));
        Due.is("from end to end", 9, x.swap(8, 0));
        Due.is("two between", 4, x.swap(2, 5));
        Due.same("kinds and letters go along", "q0,1;4bo,1a,1ba,5u;4o,3ibi,2be,3bi,2eb;", Due.poemOf(x));
        Due.is("words stay as many", 9, x.count(1));
    }

    private static void promise13Bad() {
        Edge.of("Promise 13", "BAD;");
        FeetAndRhymes x = new FeetAndRhymes();
        Due.is("no poem", Due.BAD, x.swap(0, 1));
        Due.tell(x, "q0,1;1ta;2te;");
        Due.is("word 2", Due.BAD, x.swap(0, 2));
        Due.is("word 2 ahead", Due.BAD, x.swap(2, 0));
        for (int n : EdgesOfRows.NEVER) {
            Due.is("word " + n, Due.BAD, x.swap(0, n));
            Due.is("word " + n + " ahead", Due.BAD, x.swap(n, 0));
            Due.is("word " + n + " twice", Due.BAD, x.swap(n, n));
        }
        Due.is("no act", 0, x.count(5));
    }

    private static void promise13State() {
        Edge.of("Promise 13", "STATE: it is one.");
        FeetAndRhymes x = Due.told("q0,1;1ta;2te;");
        Due.is("word 0", Due.STATE, x.swap(0, 0));
        Due.is("word 1", Due.STATE, x.swap(1, 1));
        Due.is("no act", 0, x.count(5));
    }

    private static void promise14Was() {
        Edge.of("Promise 14", "The METRE is another (FOOT 0 to 3, FEET 1 to 5): 10 times what FOOT was, and FEET.");
        FeetAndRhymes x = Due.told("q3,5;1ta;");
        int was = 35;
        for (int foot = 0; foot < 4; foot++) {
            for (int feet = 1; feet <= 5; feet++) {
                Due.is("what it was", was, x.metre(foot, feet));
                Due.is("foot", foot, x.whole(0));
                Due.is("feet", feet, x.whole(1));
                was = 10 * foot + feet;
            }
        }
    }

    private static void promise14Bad() {
        Edge.of("Promise 14", "BAD;");
        FeetAndRhymes x = Due.told("q3,5;1ta;");
        Due.is("foot 4", Due.BAD, x.metre(4, 1));
        Due.is("feet 0", Due.BAD, x.metre(0, 0));
        Due.is("feet 6", Due.BAD, x.metre(0, 6));
        for (int n : EdgesOfRows.NEVER) {
            Due.is("foot " + n, Due.BAD, x.metre(n, 1));
            Due.is("feet " + n, Due.BAD, x.metre(0, n));
        }
        Due.is("the metre stays", 35, x.metre(3, 5));
    }

    private static void promise14State() {
        Edge.of("Promise 14", "STATE: no POEM (ahead of BAD).");
        FeetAndRhymes x = new FeetAndRhymes();
        Due.is("as told", Due.STATE, x.metre(0, 1));
        Due.is("foot 4", Due.STATE, x.metre(4, 1));
        Due.is("foot -1", Due.STATE, x.metre(-1, 1));
        Due.is("feet 0", Due.STATE, x.metre(0, 0));
        Due.is("feet 6", Due.STATE, x.metre(0, 6));
        Due.is("a poem", 1, Due.tell(x, "q0,1;1ta;"));
        Due.is("feet 6", Due.BAD, x.metre(0, 6));
    }
}
