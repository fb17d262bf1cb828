/** Promises 28 to 33: kinds, asks and their trace, counts, the status. */
public final class AskedTest {
    /** Words 0 to 4 are of kinds 1 to 5; word 5 is there to be changed. */
    private static final String TEXT = "q0,1;1river,2alone,3banana,4the,5idea;2o;";

    public static void main(String[] args) {
        promise28();
        promise29();
        promises30And31();
        promise30Refused();
        promise32();
        promise33();
        Due.end();
    }

    private static void promise28() {
        FeetAndRhymes x = new FeetAndRhymes();
        Due.is("no poem", Due.BAD, x.kind(0));
        Due.tell(x, TEXT);
        for (int w = 0; w < 5; w++) {
            Due.is("kind of " + w, w + 1, x.kind(w));
        }
        Due.is("no word -1", Due.BAD, x.kind(-1));
        Due.is("no word 6", Due.BAD, x.kind(6));
        x.swap(0, 4);
        Due.is("it goes along", 5, x.kind(0));
    }

    private static void promise29() {
        FeetAndRhymes x = new FeetAndRhymes();
        Due.is("no poem", Due.BAD, x.as(0, 0));
        Due.tell(x, TEXT);
        // Bits of the kinds that a word of each kind is.
        int[] also = {0, 3, 7, 11, 17, 49};
        for (int w = 0; w < 5; w++) {
            for (int k = 0; k < 6; k++) {
                boolean is = (also[w + 1] >> k & 1) == 1;
                Due.is("word " + w + " as " + k, is ? w : Due.KIND, x.as(w, k));
                Due.is("its status", is ? 0 : 3, x.status());
            }
        }
        Due.is("kind -1", Due.BAD, x.as(0, -1));
        Due.is("kind 6", Due.BAD, x.as(0, 6));
        Due.is("no word -1", Due.BAD, x.as(-1, 0));
        Due.is("no word 6", Due.BAD, x.as(6, 0));
        Due.is("BAD leaves the status", 3, x.as(0, 4) == Due.KIND && x.as(9, 0) == Due.BAD ? x.status() : -1);
    }

    private static void asked(FeetAndRhymes x, int word, int what, int answer, int... trace) {
        String text = "ask " + what + " of " + word;
        Due.is(text, answer, x.ask(word, what));
        for (int i = 0; i < trace.length; i++) {
            Due.is("trace " + i + " of " + text, trace[i], x.trace(i));
        }
        Due.is("end of the trace of " + text, Due.NONE, x.trace(trace.length));
        Due.is("ahead of the trace of " + text, Due.NONE, x.trace(-1));
        Due.is("far off in the trace of " + text, Due.NONE, x.trace(Integer.MAX_VALUE));
    }

    private static void promises30And31() {
        FeetAndRhymes x = Due.told(TEXT);
        asked(x, 0, 0, 5 + 0 + 2, 11, 10, 21, 20);
        asked(x, 0, 1, 0 + 2, 21, 20);
        asked(x, 1, 0, -(5 + 2 * (1 + 2)), 12, 11, 10, 24, 21, 20);
        asked(x, 1, 1, 2 * (1 + 2), 24, 21, 20);
        asked(x, 2, 0, 6 + (2 + 3 - 1000), 11, 10, 22, 21, 20);
        asked(x, 2, 1, 2 + 3 - 1000, 22, 21, 20);
        asked(x, 3, 0, 3 - 100, 13, 10);
        asked(x, 3, 1, 3 - (3 - 100), 23, 20, 13, 10);
        asked(x, 4, 0, 2 * (4 - 100), 14, 13, 10);
        asked(x, 4, 1, 4 - 2 * (4 - 100), 23, 20, 14, 13, 10);
        x.swap(3, 5);
        asked(x, 5, 1, 5 - (3 - 100), 23, 20, 13, 10);
        x.become(5, 1);
        asked(x, 5, 0, 3 + 5 + 1, 11, 10, 21, 20);
    }

    private static void promise30Refused() {
        FeetAndRhymes x = new FeetAndRhymes();
        Due.is("no poem", Due.BAD, x.ask(0, 0));
        Due.is("no trace", Due.NONE, x.trace(0));
        Due.tell(x, TEXT);
        x.ask(3, 0);
        Due.is("what -1", Due.BAD, x.ask(0, -1));
        Due.is("what 2", Due.BAD, x.ask(0, 2));
        Due.is("no word -1", Due.BAD, x.ask(-1, 0));
        Due.is("no word 6", Due.BAD, x.ask(6, 1));
        Due.is("the trace stays", 13, x.trace(0));
        Due.is("the trace stays", 10, x.trace(1));
        Due.is("the trace stays", Due.NONE, x.trace(2));
    }

    private static void promise32() {
        FeetAndRhymes x = Due.told(TEXT);
        x.row(0, 0, 1);
        x.row(0, 1, 2);
        x.row(4, 0, 0);
        x.feed('q');
        x.metre(1, 1);
        int[] want = {2, 6, 2, 5 + 5 + 6 + 3 + 4 + 1, 2 + 2 + 3 + 1 + 2 + 1, 1, 1};
        for (int what = 0; what < want.length; what++) {
            Due.is("count " + what, want[what], x.count(what));
        }
        Due.is("what -1", Due.BAD, x.count(-1));
        Due.is("what 7", Due.BAD, x.count(7));
        x.take(2);
        Due.is("words", 5, x.count(1));
        Due.is("letters", 18, x.count(3));
        Due.is("syllables", 8, x.count(4));
    }

    private static void promise33() {
        FeetAndRhymes x = Due.told(TEXT);
        Due.is("there was none", 0, x.status());
        x.drop(0);
        Due.is("NULL", 1, x.status());
        x.feed('q');
        x.poem();
        x.take(0);
        x.ask(0, 0);
        x.scan(0, 0, 1, 0);
        Due.is("calls without a row leave it", 1, x.status());
        x.row(9, 0, 0);
        x.set(9, 0, 0);
        x.copy(9, 0, 0, 0, 0);
        x.drop(9);
        x.as(99, 0);
        x.put(9, 0, 0, 0, 0);
        x.who(99, 0, 0, 0);
        Due.is("BAD leaves it", 1, x.status());
        x.row(0, 0, 3);
        Due.is("a row has none", 0, x.status());
        x.set(0, 3, 0);
        Due.is("PLACE", 2, x.status());
        x.put(0, 0, 1, 0, 1);
        Due.is("put had none", 0, x.status());
        x.as(0, 5);
        Due.is("KIND", 3, x.status());
        x.who(0, 0, 0, 0);
        Due.is("who had none", 0, x.status());
        x.row(0, 0, -5);
        Due.is("SIZE", 4, x.status());
        x.row(1, 1, 3);
        x.copy(0, 0, 1, 0, 1);
        Due.is("STORE", 5, x.status());
        x.drop(1);
        Due.is("drop had none", 0, x.status());
    }
}
