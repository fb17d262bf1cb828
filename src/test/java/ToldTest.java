/** Promises 1 and 6 to 8: a new object, the tape, the poem that is read, its faults. */
public final class ToldTest {
    public static void main(String[] args) {
        promise1();
        promise6();
        promise7Reads();
        promise7Faults();
        promise7Keeps();
        promise8();
        Due.end();
    }

    private static void promise1() {
        FeetAndRhymes x = new FeetAndRhymes();
        for (int what = 0; what < 7; what++) {
            Due.is("count " + what + " of a new one", 0, x.count(what));
        }
        Due.is("no poem", Due.STATE, x.whole(0));
        Due.is("no image", Due.STATE, x.restore(1));
        Due.is("no fault", 0, x.fault());
        Due.is("no finding", 0, x.status());
        Due.is("no trace", Due.NONE, x.trace(0));
        Due.is("no word", Due.BAD, x.kind(0));
        Due.is("no line", Due.BAD, x.line(0, 0));
        Due.is("all rows are missing", Due.NULL, x.drop(7));
    }

    private static void promise6() {
        FeetAndRhymes x = new FeetAndRhymes();
        Due.is("below", Due.BAD, x.feed(-1));
        Due.is("above", Due.BAD, x.feed(256));
        Due.is("nothing came", 0, x.count(6));
        Due.is("0", 1, x.feed(0));
        Due.is("255", 2, x.feed(255));
        for (int i = 3; i <= 130; i++) {
            Due.is("byte " + i, i, x.feed(97));
        }
        Due.is("131 bytes", Due.FULL, x.feed(97));
        Due.is("BAD goes ahead of FULL", Due.BAD, x.feed(300));
        Due.is("130 bytes", 130, x.count(6));
        Due.is("fault at the first", -1000100, x.poem());
        Due.is("empty then", 1, x.feed(97));
    }

    private static void promise7Reads() {
        reads("q0,1;1a;", 1);
        reads("q3,5;5aeiouaei;", 1);
        reads("q1,2;1a,2e,3i,4o,5u;1bcdfghja;2a;3the,4end;", 4);
        FeetAndRhymes x = new FeetAndRhymes();
        Due.is("numbers of two figures", 1, Due.tell(x, "q03,05;01a;"));
        Due.same("by what they are", "q3,5;1a;", Due.poemOf(x));
        String text = "q0,1;1abababab,1abababab,1ababab,1ababab,1a;1abababab,1abababab,1ababab,1ababab,1ababa;"
                + "1abababab,1abababab,1abababab,1a;1abababab;";
        Due.is("the tape in full", 130, text.length());
        reads(text, 4);
    }

    private static void reads(String text, int lines) {
        FeetAndRhymes x = new FeetAndRhymes();
        Due.is("lines of " + text, lines, Due.tell(x, text));
        Due.same("as told", text, Due.poemOf(x));
        Due.is("tape is empty then", 0, x.count(6));
        Due.is("no fault", 0, x.fault());
    }

    private static void promise7Faults() {
        faulty("", 0, 1);
        faulty("q", 1, 1);
        faulty("r0,1;1a;", 0, 1);
        faulty("Q0,1;1a;", 0, 1);
        faulty("0q,1;1a;", 0, 1);
        faulty("qa", 1, 1);
        faulty("q,1;1a;", 1, 1);
        faulty("q4,1;1a;", 1, 2);
        faulty("q99,1;1a;", 1, 2);
        faulty("q000,1;1a;", 1, 1);
        faulty("q0;1;1a;", 2, 1);
        faulty("q0,0;1a;", 3, 2);
        faulty("q0,6;1a;", 3, 2);
        faulty("q0,1,1a;", 4, 1);
        faulty("q0,1;", 5, 1);
        faulty("q0,1;a;", 5, 1);
        faulty("q0,1;;", 5, 1);
        faulty("q0,1; 1a;", 5, 1);
        faulty("q0,1;0a;", 5, 2);
        faulty("q0,1;6a;", 5, 2);
        faulty("q0,1;111a;", 5, 1);
        faulty("q0,1;1;", 6, 1);
        faulty("q0,1;1", 6, 1);
        faulty("q0,1;1A;", 6, 1);
        faulty("q0,1;1a", 7, 1);
        faulty("q0,1;1a2;", 7, 1);
        faulty("q0,1;1a123;", 7, 1);
        faulty("q0,1;1a.;", 7, 1);
        faulty("q0,1;1a,;", 8, 1);
        faulty("q0,1;1a,", 8, 1);
        faulty("q0,1;1a;;", 8, 1);
        faulty("q0,1;1a;b", 8, 1);
        faulty("q0,1;1a;q0,1;", 8, 1);
        faulty("q0,1;1bcd;", 6, 4);
        faulty("q0,1;1y;", 6, 4);
        faulty("q0,1;1bcd", 6, 4);
        faulty("q0,1;1b!;", 6, 4);
        faulty("q0,1;1bcdfghjka;", 6, 4);
        faulty("q0,1;1bcdfghjab;", 14, 1);
        faulty("q0,1;1aaaaaaaaa;", 14, 1);
        faulty("q0,1;1a,7bcd;", 8, 2);
        faulty("q0,1;1a,1a,1a,1a,1a,1a;", 19, 1);
        faulty("q0,1;1a,1a,1a,1a,1a,", 19, 1);
        faulty("q0,1;1a,1a,1a,1a,1b,1a;", 18, 4);
        faulty("q0,1;1a;1a;1a;1a;1a;", 17, 3);
        faulty("q0,1;1a;1a;1a;1a;1b;", 17, 3);
        faulty("q0,1;1a;1a;1a;1a;6a;", 17, 2);
        faulty("q0,1;1a;1a;1a;1a;123", 17, 1);
        faulty("q0,1;1a;1a;1a;1a;a", 17, 1);
        faulty("q0,1;1a;1a;1a;1a;;", 17, 1);
    }

    private static void faulty(String text, int place, int number) {
        FeetAndRhymes x = new FeetAndRhymes();
        Due.is("place of the fault of " + text, -1000100 - place, Due.tell(x, text));
        Due.is("fault of " + text, number, x.fault());
        Due.is("no poem by " + text, 0, x.count(2));
        Due.is("tape is empty behind " + text, 0, x.count(6));
    }

    private static void promise7Keeps() {
        FeetAndRhymes x = Due.told("q1,2;1ta,2ta;3ta;");
        x.row(5, 0, 4);
        x.image(0);
        x.become(0, 5);
        x.ask(0, 1);
        Due.is("a fault", -1000102, Due.tell(x, "q0"));
        Due.same("the poem stays", "q1,2;5ta,2ta;3ta;", Due.poemOf(x));
        Due.is("the act stays", 1, x.count(5));
        Due.is("another poem", 1, Due.tell(x, "q0,1;4no;"));
        Due.same("stands in its place", "q0,1;4no;", Due.poemOf(x));
        Due.is("no act can be undone", Due.STATE, x.undo());
        Due.is("no act", 0, x.count(5));
        Due.is("rows stay", 1, x.count(0));
        Due.is("the trace stays", 23, x.trace(0));
        Due.is("images stay", 1, x.restore(0));
        Due.same("as it was kept", "q1,2;1ta,2ta;3ta;", Due.poemOf(x));
    }

    private static void promise8() {
        FeetAndRhymes x = new FeetAndRhymes();
        Due.is("before one", 0, x.fault());
        Due.tell(x, "q9,1;1a;");
        Due.is("the latest", 2, x.fault());
        Due.tell(x, "q0,1;1b;");
        Due.is("the latest", 4, x.fault());
        Due.is("a good one", 1, Due.tell(x, "q0,1;1a;"));
        Due.is("is no fault: the latest stays", 4, x.fault());
    }
}
