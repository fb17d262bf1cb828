/** What the document says ahead of its numbered terms: numbers, fractions, sets, refusals. */
final class EdgesOfTerms {
    /** A call that is refused, or finds something. */
    private interface Call {
        long on(FeetAndRhymes x);
    }

    private EdgesOfTerms() { }

    static void all() {
        useOfAnObject();
        numbers();
        divided();
        lowestTerms();
        noughtByOne();
        sets();
        badFirst();
        stateFirstWhereTold();
        fullAheadOfFindings();
        firstInTime();
        nullFinding();
        placeFinding();
        kindFinding();
        sizeFinding();
        storeFinding();
        badChangesNothing();
        stateChangesNothing();
        fullChangesNothing();
        findingsChangeNothing();
    }

    private static void useOfAnObject() {
        Edge.of("What it is", "An object is used for at most 512 calls after it has been made; "
                + "what later calls answer is free.");
        FeetAndRhymes x = Due.told("q0,1;1ta;");
        int was = 1;
        for (int call = 11; call <= 511; call++) {
            int foot = call % 4;
            int feet = call % 5 + 1;
            Due.is("call " + call, was, x.metre(foot, feet));
            was = 10 * foot + feet;
        }
        Due.is("call 512", 24, x.count(5));
        FeetAndRhymes y = new FeetAndRhymes();
        for (int call = 1; call <= 511; call++) {
            Due.is("row by call " + call, 40, y.row(call % 8, 2, 40));
        }
        Due.is("row by call 512", 7, y.set(0, 39, 7));
    }

    private static void numbers() {
        Edge.of("Terms", "Numbers go from 0 on.");
        FeetAndRhymes x = Due.told("q0,1;1ta,2te;3ti;");
        Due.is("row 0", 1, x.row(0, 0, 1));
        Due.is("item 0", 7, x.set(0, 0, 7));
        Due.is("word 0 is in line 0", 0, x.word(0, 0));
        Due.is("at place 0", 0, x.word(0, 1));
        Due.is("letter 0", 't' - 'a', x.word(0, 10));
        Due.is("line 0 begins with word 0", 0, x.line(0, 1));
        Due.is("syllable 0 is bit 0", 1, x.word(0, 4));
        Due.is("line 0 has number 0 in the scheme", 0, x.line(0, 3));
        Due.is("image 0", 1, x.image(0));
        Due.is("an ask", 3, x.ask(0, 0));
        Due.is("trace 0", 11, x.trace(0));
        Due.is("the last word is 2", 3, x.kind(2));
        Due.is("there is no word 3", Due.BAD, x.kind(3));
        Due.is("there is no line 2", Due.BAD, x.line(2, 0));
    }

    private static void divided() {
        Edge.of("Terms", "All that is divided is cut towards 0,");
        // By seed 1 the third X is 1622650073: by 16 it is 101415629 and 9 of 16, which leaves 4 by 5.
        FeetAndRhymes x = Due.told("q0,1;2abut;");
        Due.is("kinds 1, 4, 5 by three draws cost 5, 0, 3", 8, x.drawn(3, 1, 0));
        Due.is("the first two", 5, x.drawn(2, 1, 0));
    }

    private static void lowestTerms() {
        Edge.of("Terms", "but fractions, told as two numbers in lowest terms");
        // One of two places is empty: 1; the other one costs nothing if it is strong, else 3.
        FeetAndRhymes x = Due.told("q1,1;4a;");
        int[] above = {0, 1, 1, 3, 2, 1, 3, 7, 4, 9, 1};
        int[] below = {1, 10, 5, 10, 5, 2, 5, 10, 5, 10, 1};
        for (int p = 0; p <= 10; p++) {
            Due.is("above of " + p + " by 10", above[p], x.stressed(0, 1, p, 0));
            Due.is("below of " + p + " by 10", below[p], x.stressed(0, 1, p, 1));
        }
        Due.is("all of 10: above", 1, x.stressed(0, 4, 5, 0));
        Due.is("all of 10: below", 1, x.stressed(0, 4, 5, 1));
    }

    private static void noughtByOne() {
        Edge.of("Terms", "(0 is 0 by 1).");
        FeetAndRhymes x = Due.told("q1,1;4a;1ta,1ta,1ta;");
        for (int p = 0; p <= 10; p++) {
            Due.is("never, above, by " + p, 0, x.stressed(0, 0, p, 0));
            Due.is("never, below, by " + p, 1, x.stressed(0, 0, p, 1));
        }
        Due.is("no scan and nothing either: above", 0, x.stressed(1, 99, 5, 0));
        Due.is("no scan and nothing either: below", 1, x.stressed(1, 99, 5, 1));
    }

    private static void sets() {
        Edge.of("Terms", "Sets are bits.");
        FeetAndRhymes x = Due.told("q0,1;1a,1e,1i,1o,1u;1a,1e,1i,1o,1u;1a,1e,1i,1o,1u;1a,1e,1i,1o,1u;");
        Due.is("words 4, 9, 14, 19", 0x84210, x.ends(0, 3));
        Due.is("places 0 to 3", 15, x.line(3, 5));
        FeetAndRhymes y = Due.told("q0,1;3babababa;4babababa;");
        Due.is("syllables 0 and 2", 5, y.word(0, 4));
        Due.is("syllables 0 to 3", 15, y.word(1, 5));
        Due.is("no kind is the empty set", 0, y.kinds(0, 99));
    }

    private static void badFirst() {
        Edge.of("Terms", "Refusals are answers, the first of these that fits, but as told: "
                + "BAD (a number is not as told; there is no such thing)");
        FeetAndRhymes none = new FeetAndRhymes();
        Due.is("no image 2, and no poem", Due.BAD, none.image(2));
        Due.is("no image -1, and none was kept", Due.BAD, none.restore(-1));
        Due.is("no lane 3, and fewer than none", Due.BAD, none.row(0, 3, -1));
        Due.is("no row 8, and fewer than none", Due.BAD, none.row(8, 0, -1));
        Due.is("no row 8, and one that is missing", Due.BAD, none.copy(0, -1, 8, -1, -1));
        FeetAndRhymes x = Due.told("q0,1;4batabab,4batabab,4batabab,1ta,1ta;2te;");
        Due.is("no word 6, and it is one", Due.BAD, x.swap(6, 6));
        Due.is("no word -1, and it is one", Due.BAD, x.swap(-1, -1));
        Due.is("no kind 6 of a word", Due.BAD, x.become(0, 6));
        Due.is("no place 6 of a line that has 5", Due.BAD, x.put(0, 6, 1, 0, 1));
        Due.is("no kind 0, in a line that has 5", Due.BAD, x.put(0, 0, 0, 0, 1));
        Due.is("no row 8, in a line that has 5", Due.BAD, x.put(0, 0, 1, 8, 1));
        Due.is("nine letters, in a line that has 5", Due.BAD, x.put(0, 0, 1, 0, 9));
        Due.is("nine letters, of a row that is missing", Due.BAD, x.put(1, 0, 1, 0, 9));
        Due.is("p 11, and nine that are either", Due.BAD, x.stressed(0, 0, 11, 0));
        Due.is("what 2, and nine that are either", Due.BAD, x.stressed(0, 0, 10, 2));
        Due.is("no word 6, and a row that is missing", Due.BAD, x.who(6, 0, 0, 0));
        Due.is("no kind 6 to be taken as", Due.BAD, x.as(0, 6));
        for (int i = 0; i < 130; i++) {
            x.feed('q');
        }
        Due.is("no byte 256, and the tape has 130", Due.BAD, x.feed(256));
    }

    private static void stateFirstWhereTold() {
        Edge.of("Terms", "STATE (as told)");
        FeetAndRhymes x = new FeetAndRhymes();
        Due.is("no poem goes ahead of a foot that is none", Due.STATE, x.metre(4, 0));
        Due.is("no poem goes ahead of a number that is none", Due.STATE, x.whole(8));
        Due.is("no poem goes ahead of a seed that is none", Due.STATE, x.drawn(21, 0, 2));
        Due.tell(x, "q0,1;1ta;");
        x.row(0, 0, 2);
        x.set(0, 0, 1);
        x.set(0, 1, 26);
        Due.is("no vowel goes behind an item that is no letter", Due.PLACE, x.put(0, 0, 1, 0, 2));
        Due.is("no vowel goes behind a place that is none", Due.PLACE, x.put(0, 0, 1, 0, 3));
        Due.is("no vowel alone", Due.STATE, x.put(0, 0, 1, 0, 1));
    }

    private static void fullAheadOfFindings() {
        Edge.of("Terms", "FULL (as told), then FINDINGS,");
        FeetAndRhymes x = Due.told("q0,1;1ta,1ta,1ta,1ta,1ta;");
        Due.is("the line has 5, and the row is missing", Due.FULL, x.put(0, 5, 1, 0, 1));
        x.row(0, 2, 1);
        Due.is("the line has 5, and there is no such place", Due.FULL, x.put(0, 0, 1, 0, 2));
        x.set(0, 0, -1);
        Due.is("the line has 5, and the item is no letter", Due.FULL, x.put(0, 0, 1, 0, 1));
        x.set(0, 0, 1);
        Due.is("the line has 5, and there is no vowel", Due.FULL, x.put(0, 0, 1, 0, 1));
    }

    private static void firstInTime() {
        Edge.of("Terms", "of several the first in time:");
        FeetAndRhymes x = Due.told("q0,1;1ta;");
        x.row(1, 1, 2);
        x.row(2, 2, 2);
        Due.is("set: missing, then the place", Due.NULL, x.set(0, -1, 0));
        Due.is("copy: missing, then the lanes, then the place", Due.NULL, x.copy(1, -1, 0, -1, -1));
        Due.is("copy: missing as the first", Due.NULL, x.copy(0, -1, 1, -1, -1));
        Due.is("copy: the lanes, then the place", Due.STORE, x.copy(1, -1, 2, -1, -1));
        Due.is("who: missing, then the place", Due.NULL, x.who(0, 0, 0, -1));
        Due.is("put: missing, then the place", Due.NULL, x.put(0, 0, 1, 0, 8));
    }

    private static void nullFinding() {
        Edge.of("Terms", "-1000010 less 1 NULL (a ROW that is missing)");
        FeetAndRhymes x = Due.told("q0,1;1ta;");
        x.row(1, 0, 4);
        Due.is("set", -1000011, x.set(0, 0, 0));
        Due.is("copy from it", -1000011, x.copy(0, 0, 1, 0, 1));
        Due.is("copy to it", -1000011, x.copy(1, 0, 0, 0, 1));
        Due.is("drop", -1000011, x.drop(0));
        Due.is("put", -1000011, x.put(0, 0, 1, 0, 1));
        Due.is("who", -1000011, x.who(0, 0, 0, 0));
        Due.is("status", 1, x.status());
    }

    private static void placeFinding() {
        Edge.of("Terms", "2 PLACE (no such place of a ROW)");
        FeetAndRhymes x = Due.told("q0,1;1ta;1ta;");
        x.row(0, 0, 1);
        Due.is("set", -1000012, x.set(0, 1, 0));
        Due.is("copy", -1000012, x.copy(0, 0, 0, 0, 2));
        Due.is("put", -1000012, x.put(0, 0, 1, 0, 2));
        Due.is("who", -1000012, x.who(0, 0, 0, 0));
        Due.is("status", 2, x.status());
    }

    private static void kindFinding() {
        Edge.of("Terms", "3 KIND (a WORD that is not that)");
        FeetAndRhymes x = Due.told("q0,1;1ta;");
        Due.is("a FIRST is no LAST", -1000013, x.as(0, 2));
        Due.is("status", 3, x.status());
    }

    private static void sizeFinding() {
        Edge.of("Terms", "4 SIZE (fewer than none)");
        FeetAndRhymes x = new FeetAndRhymes();
        Due.is("one less than none", -1000014, x.row(0, 0, -1));
        Due.is("status", 4, x.status());
        Due.is("far less than none", -1000014, x.row(7, 2, Integer.MIN_VALUE));
        Due.is("none is not fewer than none", 0, x.row(7, 2, 0));
    }

    private static void storeFinding() {
        Edge.of("Terms", "5 STORE (ROWS of two LANES).");
        FeetAndRhymes x = new FeetAndRhymes();
        for (int lane = 0; lane < 3; lane++) {
            x.row(lane, lane, 3);
            x.row(lane + 3, lane, 3);
        }
        for (int a = 0; a < 6; a++) {
            for (int b = 0; b < 6; b++) {
                boolean same = a % 3 == b % 3;
                Due.is("copy of " + a + " to " + b, same ? 0 : -1000015, x.copy(a, 0, b, 0, 0));
                Due.is("status", same ? 0 : 5, x.status());
            }
        }
    }

    // ---- what is refused, or found, changes nothing

    private static final String TEXT = "q1,2;1ta,5te;3ti,4to,1tu,2ba,1be;";

    /** Two acts, a fault, a trace, bytes on the tape, an image, two rows; the status is 2. */
    private static FeetAndRhymes busy() {
        FeetAndRhymes x = Due.told(TEXT);
        x.poem();
        Due.spell(x, 0, "stone");
        x.row(1, 2, 2);
        x.set(1, 0, -1);
        x.image(0);
        x.become(0, 3);
        x.metre(2, 3);
        x.ask(1, 1);
        x.feed('q');
        x.feed('0');
        x.set(1, 2, 0);
        return x;
    }

    private static String seen(FeetAndRhymes x) {
        StringBuilder text = new StringBuilder(Due.poemOf(x));
        for (int what = 0; what < 7; what++) {
            text.append(' ').append(x.count(what));
        }
        text.append(' ').append(x.fault());
        for (int i = 0; i < 7; i++) {
            text.append(' ').append(x.trace(i));
        }
        return text.toString();
    }

    private static void changesNothing(String what, long answer, int status, Call call) {
        FeetAndRhymes x = busy();
        String ahead = seen(x);
        Due.is(what, answer, call.on(x));
        Due.is("status behind " + what, status, x.status());
        Due.same("what is seen behind " + what, ahead, seen(x));
        Due.is("items behind " + what, 0, x.put(0, 0, 1, 0, 5));
        Due.same("items behind " + what, "1stone", Due.spelled(x, 0));
        Due.is("items of the other row behind " + what, 2, x.drop(1));
        Due.is("a third act behind " + what, 2, x.undo());
        Due.is("a second act behind " + what, 1, x.undo());
        Due.is("a first act behind " + what, 0, x.undo());
        Due.same("all undone behind " + what, TEXT, Due.poemOf(x));
        Due.is("no other image behind " + what, Due.STATE, x.restore(1));
        Due.is("the tape behind " + what, 3, x.feed(';'));
        Due.is("fault of the tape behind " + what, -1000102, x.poem());
    }

    private static void badChangesNothing() {
        Edge.of("Terms", "What is refused, or found, changes nothing");
        changesNothing("row 8", Due.BAD, 2, x -> x.row(8, 0, 1));
        changesNothing("row of 41", Due.BAD, 2, x -> x.row(0, 0, 41));
        changesNothing("row of lane 3", Due.BAD, 2, x -> x.row(0, 3, 1));
        changesNothing("set of row 8", Due.BAD, 2, x -> x.set(8, 0, 1));
        changesNothing("copy to row 8", Due.BAD, 2, x -> x.copy(0, 0, 8, 0, 1));
        changesNothing("drop of row -1", Due.BAD, 2, x -> x.drop(-1));
        changesNothing("feed of 256", Due.BAD, 2, x -> x.feed(256));
        changesNothing("become 6", Due.BAD, 2, x -> x.become(0, 6));
        changesNothing("become of word 7", Due.BAD, 2, x -> x.become(7, 1));
        changesNothing("put in line 2", Due.BAD, 2, x -> x.put(2, 0, 1, 0, 5));
        changesNothing("put at place 3 of 2", Due.BAD, 2, x -> x.put(0, 3, 1, 0, 5));
        changesNothing("put of kind 6", Due.BAD, 2, x -> x.put(0, 0, 6, 0, 5));
        changesNothing("put of no letters", Due.BAD, 2, x -> x.put(0, 0, 1, 0, 0));
        changesNothing("put of row 8", Due.BAD, 2, x -> x.put(0, 0, 1, 8, 5));
        changesNothing("take of word 7", Due.BAD, 2, x -> x.take(7));
        changesNothing("swap of word 7", Due.BAD, 2, x -> x.swap(0, 7));
        changesNothing("metre of foot 4", Due.BAD, 2, x -> x.metre(4, 1));
        changesNothing("metre of feet 0", Due.BAD, 2, x -> x.metre(0, 0));
        changesNothing("metre of feet 6", Due.BAD, 2, x -> x.metre(0, 6));
        changesNothing("who of word 7", Due.BAD, 2, x -> x.who(7, 0, 1, 0));
        changesNothing("image 2", Due.BAD, 2, x -> x.image(2));
        changesNothing("restore 2", Due.BAD, 2, x -> x.restore(2));
        changesNothing("as of word 7", Due.BAD, 2, x -> x.as(7, 0));
        changesNothing("ask of word 7", Due.BAD, 2, x -> x.ask(7, 0));
        changesNothing("ask 2", Due.BAD, 2, x -> x.ask(0, 2));
        changesNothing("drawn 21", Due.BAD, 2, x -> x.drawn(21, 1, 0));
    }

    private static void stateChangesNothing() {
        changesNothing("become what it is", Due.STATE, 2, x -> x.become(0, 3));
        changesNothing("swap of one", Due.STATE, 2, x -> x.swap(4, 4));
        changesNothing("restore of what was not kept", Due.STATE, 2, x -> x.restore(1));
        FeetAndRhymes x = Due.told("q0,1;1ta;2te;");
        x.row(0, 0, 1);
        x.set(0, 0, 1);
        x.set(0, 1, 1);
        Due.is("take of the only one", Due.STATE, x.take(1));
        Due.is("put of no vowel", Due.STATE, x.put(0, 0, 1, 0, 1));
        Due.is("undo of none", Due.STATE, x.undo());
        Due.same("the poem stays", "q0,1;1ta;2te;", Due.poemOf(x));
        Due.is("no act of these", 0, x.count(5));
        Due.is("the status stays", 2, x.status());
    }

    private static void fullChangesNothing() {
        changesNothing("put in a line that has 5", Due.FULL, 2, x -> x.put(1, 5, 1, 0, 5));
        FeetAndRhymes x = new FeetAndRhymes();
        for (int i = 0; i < 130; i++) {
            x.feed(i == 0 ? 'q' : i == 1 ? '0' : ' ');
        }
        Due.is("feed of a 131st", Due.FULL, x.feed('a'));
        Due.is("130 bytes are there yet", 130, x.count(6));
        Due.is("as they were", -1000102, x.poem());
    }

    private static void findingsChangeNothing() {
        Edge.of("Terms", "but status().");
        changesNothing("row of fewer than none", Due.SIZE, 4, x -> x.row(0, 0, -1));
        changesNothing("set of a row that is missing", Due.NULL, 1, x -> x.set(2, 0, 1));
        changesNothing("set of no such place", Due.PLACE, 2, x -> x.set(0, 5, 1));
        changesNothing("copy of one that is missing", Due.NULL, 1, x -> x.copy(2, 0, 0, 0, 1));
        changesNothing("copy of two lanes", Due.STORE, 5, x -> x.copy(1, 0, 0, 0, 1));
        changesNothing("copy beyond an end", Due.PLACE, 2, x -> x.copy(0, 1, 0, 0, 5));
        changesNothing("copy to beyond an end", Due.PLACE, 2, x -> x.copy(0, 0, 0, 1, 5));
        changesNothing("drop of one that is missing", Due.NULL, 1, x -> x.drop(2));
        changesNothing("put of a row that is missing", Due.NULL, 1, x -> x.put(0, 0, 1, 2, 1));
        changesNothing("put of more than there are", Due.PLACE, 2, x -> x.put(0, 0, 1, 0, 6));
        changesNothing("put of what is no letter", Due.PLACE, 2, x -> x.put(0, 0, 1, 1, 1));
        changesNothing("who of a row that is missing", Due.NULL, 1, x -> x.who(0, 2, 2, 0));
        changesNothing("who of too few", Due.PLACE, 2, x -> x.who(0, 2, 1, 1));
        changesNothing("as of what it is not", Due.KIND, 3, x -> x.as(0, 4));
    }
}
