/** Promises 21 to 27: what would be, by chance and by draws; images. */
public final class ForetoldTest {
    public static void main(String[] args) {
        promise21();
        promise22();
        promise23();
        promise23Refused();
        promise24();
        promise24Refused();
        promise25();
        promises26And27();
        Due.end();
    }

    private static void promise21() {
        FeetAndRhymes x = new FeetAndRhymes();
        Due.is("no poem", Due.BAD, x.ends(0, 1));
        Due.tell(x, "q0,1;1stone;4a,2alone;1bat;");
        Due.is("those on on, for line 2", 5, x.ends(2, 0));
        Due.is("those on on, for line 1", 5, x.ends(1, 0));
        Due.is("those on on, by line 1", 5, x.ends(0, 1));
        Due.is("those on at", 8, x.ends(0, 2));
        x.become(2, 1);
        Due.is("as it is of another kind", 1, x.ends(2, 0));
        Due.is("those on alon", 4, x.ends(0, 1));
        Due.is("one and the same", Due.BAD, x.ends(1, 1));
        Due.is("no line -1", Due.BAD, x.ends(-1, 0));
        Due.is("no line 3", Due.BAD, x.ends(0, 3));
        Due.same("nothing changes", "q0,1;1stone;4a,1alone;1bat;", Due.poemOf(x));
        Due.tell(x, "q0,1;1bat;1no,1bat;");
        Due.is("all on at", 5, x.ends(1, 0));
        x.take(2);
        Due.is("but not one that was taken out", 1, x.ends(1, 0));
        Due.tell(x, "q0,1;1a,1e,1i,1o,1u;1a,1e,1i,1o,1u;1a,1e,1i,1o,1u;1a,1e,1i,1o,1u;");
        Due.is("of twenty, those on u", 1 << 4 | 1 << 9 | 1 << 14 | 1 << 19, x.ends(0, 3));
        Due.is("the last kind of twenty", Due.BAD, x.kinds(20, 0));
    }

    private static void promise22() {
        FeetAndRhymes x = new FeetAndRhymes();
        Due.is("no poem", Due.BAD, x.kinds(0, 0));
        // By 0 1: FIRST and EVEN cost 5, LAST and SMALL nothing, MUTE 3.
        Due.tell(x, "q0,1;1abut;1bat;");
        Due.is("by 0", 20, x.kinds(0, 0));
        Due.is("by 5", 10, x.kinds(0, 5));
        Due.is("by 3", 32, x.kinds(0, 3));
        Due.is("by 1", 0, x.kinds(0, 1));
        Due.is("by 99", 0, x.kinds(0, 99));
        Due.is("no scan by any", 0, x.kinds(1, 0));
        x.metre(1, 1);
        // One that is missing: 1; a weak one in the strong place: 4.
        Due.is("by another metre: 1", 30, x.kinds(1, 1));
        Due.is("by another metre: 4", 32, x.kinds(1, 4));
        Due.is("v -1", Due.BAD, x.kinds(0, -1));
        Due.is("v 100", Due.BAD, x.kinds(0, 100));
        Due.is("no word -1", Due.BAD, x.kinds(-1, 0));
        Due.is("no word 2", Due.BAD, x.kinds(2, 0));
        Due.same("nothing changes", "q1,1;1abut;1bat;", Due.poemOf(x));
        Due.is("no act of it", 1, x.count(5));
    }

    private static void who(FeetAndRhymes x, int first, int second, int feet, int foot, int kinds) {
        x.row(2, 2, 5);
        x.set(2, 0, 77);
        x.set(2, 3, first);
        x.set(2, 4, second);
        Due.is("feet by " + first + " " + second, feet, x.who(0, 0, 2, 3));
        Due.is("foot by " + first + " " + second, foot, x.who(0, 1, 2, 3));
        Due.is("kinds by " + first + " " + second, kinds, x.who(0, 2, 2, 3));
    }

    private static void promise23() {
        FeetAndRhymes x = new FeetAndRhymes();
        Due.is("no poem", Due.BAD, x.who(0, 0, 0, 0));
        // abut first: by 0 5, by 1 0, by 3 1; by two feet of 0 none. bat bat: by 0 2, by 1 2, by 3 3.
        Due.tell(x, "q0,1;1abut;1bat,1bat;");
        who(x, 5, 2, 2, 1, 10);
        who(x, 0, 2, 0, 2, 20);
        who(x, 1, 3, 0, 8, 0);
        who(x, 3, 2, 0, 0, 32);
        who(x, -1, -1, 60, 4, 0);
        who(x, -2, -2, 0, 0, 0);
        who(x, 5, -1, 0, 0, 0);
        who(x, 5, 3, 0, 0, 0);
        who(x, Due.NONE, Due.NONE, 0, 0, 0);
        x.metre(1, 2);
        // By two feet of 1: abut is too short by 2, as is bat bat; by one foot 0 and 2.
        who(x, 0, 2, 2, 0, 0);
        who(x, -1, -1, 60, 15, 62);
        Due.same("nothing changes", "q1,2;1abut;1bat,1bat;", Due.poemOf(x));
        FeetAndRhymes y = Due.told("q0,1;1abut;");
        y.row(0, 0, 1);
        y.set(0, 0, 255);
        Due.is("a byte of 255 is -1", 60, y.who(0, 0, 0, 0));
    }

    private static void promise23Refused() {
        FeetAndRhymes x = Due.told("q0,1;1abut;1bat,1bat;");
        x.row(0, 0, 2);
        Due.is("no word, though none is asked for", Due.BAD, x.who(3, 0, 0, 0));
        Due.is("no word -1", Due.BAD, x.who(-1, 1, 0, 0));
        Due.is("which -1", Due.BAD, x.who(0, -1, 0, 0));
        Due.is("which 3", Due.BAD, x.who(0, 3, 0, 0));
        Due.is("no row -1", Due.BAD, x.who(0, 0, -1, 0));
        Due.is("no row 8", Due.BAD, x.who(0, 0, 8, 0));
        Due.is("missing", Due.NULL, x.who(0, 0, 1, -1));
        Due.is("status NULL", 1, x.status());
        Due.is("from -1", Due.PLACE, x.who(0, 0, 0, -1));
        Due.is("status PLACE", 2, x.status());
        Due.is("from 1 there are too few", Due.PLACE, x.who(0, 0, 0, 1));
        Due.is("from far off", Due.PLACE, x.who(0, 0, 0, Integer.MAX_VALUE));
        Due.is("BAD leaves the status", Due.BAD, x.who(0, 0, 9, 0));
        Due.is("status PLACE", 2, x.status());
        Due.is("just as many", 0, x.who(0, 0, 0, 0));
        Due.is("status 0", 0, x.status());
    }

    private static void chance(FeetAndRhymes x, int v, int p, long above, long below) {
        String text = "line 0 of " + Due.poemOf(x) + " costs " + v + " or less by " + p;
        Due.is("above: " + text, above, x.stressed(0, v, p, 0));
        Due.is("below: " + text, below, x.stressed(0, v, p, 1));
    }

    private static void promise24() {
        // One that is missing: 1; and 3 more, if the other one is weak.
        FeetAndRhymes x = Due.told("q1,1;4a;");
        chance(x, 0, 5, 0, 1);
        chance(x, 1, 3, 3, 10);
        chance(x, 1, 4, 2, 5);
        chance(x, 1, 5, 1, 2);
        chance(x, 3, 5, 1, 2);
        chance(x, 4, 5, 1, 1);
        chance(x, 99, 0, 1, 1);
        chance(x, 1, 0, 0, 1);
        chance(x, 1, 10, 1, 1);
        // One too many must not be strong: then there is no scan.
        x = Due.told("q0,1;2abut,4bat;");
        chance(x, 99, 3, 7, 10);
        chance(x, 0, 3, 0, 1);
        // None is either: it is so, or is not.
        x = Due.told("q0,1;1abut;");
        chance(x, 5, 3, 1, 1);
        chance(x, 4, 3, 0, 1);
        x = Due.told("q0,1;1bat;");
        chance(x, 99, 3, 0, 1);
        // Eight: without any licence by one of 256 alone.
        x = Due.told("q0,4;4batab,4batab,4batab,4batab;");
        chance(x, 0, 5, 1, 256);
        chance(x, 0, 1, 6561, 100000000);
        chance(x, 0, 3, 194481, 100000000);
        // Turned: strong weak weak strong .. costs 1.
        chance(x, 1, 5, 1, 128);
        chance(x, 99, 7, 1, 1);
        // Weak weak strong costs nothing, one strong more 2.
        x = Due.told("q2,1;4batabab;");
        chance(x, 0, 3, 147, 1000);
        chance(x, 2, 3, 273, 1000);
        // The either ones need not stand side by side: either strong either strong.
        x = Due.told("q0,2;4bat,1bat,4bat,1bat;");
        chance(x, 0, 3, 49, 100);
        chance(x, 2, 3, 91, 100);
        // Where words run together the first one's syllable is no matter: weak strong, then the one of o.
        x = Due.told("q0,1;2abu,4o;");
        chance(x, 1, 2, 1, 1);
        x = Due.told("q0,1;4u,2abut;");
        chance(x, 1, 2, 1, 1);
        chance(x, 0, 2, 0, 1);
        Due.same("nothing changes", "q0,1;4u,2abut;", Due.poemOf(x));
    }

    private static void promise24Refused() {
        FeetAndRhymes x = new FeetAndRhymes();
        Due.is("no poem", Due.BAD, x.stressed(0, 0, 0, 0));
        Due.tell(x, "q0,4;4batab,4batab,4batab,4batab,4bat;1bat;");
        Due.is("nine of them", Due.FULL, x.stressed(0, 0, 5, 0));
        Due.is("nine of them", Due.FULL, x.stressed(0, 0, 5, 1));
        Due.is("BAD goes ahead of FULL", Due.BAD, x.stressed(0, 0, 11, 0));
        Due.is("p -1", Due.BAD, x.stressed(1, 0, -1, 0));
        Due.is("v -1", Due.BAD, x.stressed(1, -1, 0, 0));
        Due.is("v 100", Due.BAD, x.stressed(1, 100, 0, 0));
        Due.is("what -1", Due.BAD, x.stressed(1, 0, 0, -1));
        Due.is("what 2", Due.BAD, x.stressed(1, 0, 0, 2));
        Due.is("no line -1", Due.BAD, x.stressed(-1, 0, 0, 0));
        Due.is("no line 2", Due.BAD, x.stressed(2, 0, 0, 0));
    }

    private static void promise25() {
        FeetAndRhymes x = new FeetAndRhymes();
        Due.is("no poem", Due.STATE, x.drawn(0, 1, 0));
        Due.is("no poem goes ahead of BAD", Due.STATE, x.drawn(-1, 0, 9));
        // By seed 1 X is 16807, 282475249, 1622650073, 984943658, 1144108930, 470211272: kinds 1 4 5 4 4 5.
        Due.tell(x, "q0,1;2abut;");
        int[] sums = {0, 5, 5, 8, 8, 8, 11};
        for (int n = 0; n < sums.length; n++) {
            Due.is("together of " + n, sums[n], x.drawn(n, 1, 0));
            Due.is("none of " + n, 0, x.drawn(n, 1, 1));
        }
        Due.same("nothing changes", "q0,1;2abut;", Due.poemOf(x));
        Due.is("no act of it", 0, x.count(5));
        // Of two words it is the second one three times, then the first one, and the second is mute yet.
        Due.tell(x, "q0,1;2ta,2ta;");
        int[] two = {0, 2, 4, 9, 12};
        for (int n = 0; n < two.length; n++) {
            Due.is("together of two and " + n, two[n], x.drawn(n, 1, 0));
        }
        // The line of the word alone: bat has no scan, abut has one.
        Due.tell(x, "q0,1;1bat;2abut;");
        int[] lines = {0, 5, 5, 8, 8};
        for (int n = 0; n < lines.length; n++) {
            Due.is("together of lines and " + n, lines[n], x.drawn(n, 1, 0));
            Due.is("none of lines and " + n, n == 4 ? 1 : 0, x.drawn(n, 1, 1));
        }
        Due.tell(x, "q0,2;1ta;");
        Due.is("never a scan", 0, x.drawn(20, 999999, 0));
        Due.is("never a scan", 20, x.drawn(20, 999999, 1));
        Due.is("n -1", Due.BAD, x.drawn(-1, 1, 0));
        Due.is("n 21", Due.BAD, x.drawn(21, 1, 0));
        Due.is("seed 0", Due.BAD, x.drawn(0, 0, 0));
        Due.is("seed 1000000", Due.BAD, x.drawn(0, 1000000, 0));
        Due.is("what -1", Due.BAD, x.drawn(0, 1, -1));
        Due.is("what 2", Due.BAD, x.drawn(0, 1, 2));
    }

    private static void promises26And27() {
        FeetAndRhymes x = new FeetAndRhymes();
        Due.is("no poem", Due.STATE, x.image(0));
        Due.is("image -1 goes ahead", Due.BAD, x.image(-1));
        Due.is("image 2", Due.BAD, x.image(2));
        Due.is("restore -1", Due.BAD, x.restore(-1));
        Due.is("restore 2", Due.BAD, x.restore(2));
        Due.is("none was kept", Due.STATE, x.restore(0));
        String first = "q0,1;1stone,2alone;3the;";
        Due.tell(x, first);
        Due.is("kept", 1, x.image(0));
        Due.is("none was kept as 1", Due.STATE, x.restore(1));
        x.become(0, 4);
        x.swap(0, 2);
        x.take(1);
        x.metre(3, 4);
        String second = Due.poemOf(x);
        Due.same("all done", "q3,4;3the;4stone;", second);
        Due.is("kept", 1, x.image(1));
        Due.is("an image leaves the acts", 4, x.count(5));
        Due.is("as it was", 1, x.restore(0));
        Due.same("all of it", first, Due.poemOf(x));
        Due.is("no act can be undone", Due.STATE, x.undo());
        x.become(1, 5);
        Due.is("the other one", 1, x.restore(1));
        Due.same("all of it", second, Due.poemOf(x));
        Due.is("no act", 0, x.count(5));
        Due.is("the first one again, as it was kept", 1, x.restore(0));
        Due.same("all of it", first, Due.poemOf(x));
        Due.tell(x, "q1,1;1no;");
        Due.is("kept anew", 1, x.image(0));
        Due.is("from one", 1, x.restore(1));
        Due.is("to the other", 1, x.restore(0));
        Due.same("the later one", "q1,1;1no;", Due.poemOf(x));
    }
}
