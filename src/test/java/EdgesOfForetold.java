/** What is foretold: what the terms say of it, and promises 21 to 27. */
final class EdgesOfForetold {
    private EdgesOfForetold() { }

    static void all() {
        nothingChanges();
        ends();
        thatOneToo();
        kinds();
        rowTells();
        rowTellsNone();
        whoFeet();
        whoFoot();
        whoKinds();
        chances();
        apart();
        vOrLess();
        years();
        becomesTheRest();
        wordDrawn();
        kindDrawn();
        lineDrawn();
        howOftenNone();
        promises21And22();
        promise23();
        promises24And25();
        promises26And27();
    }

    private static void nothingChanges() {
        Edge.of("Terms 3", "FORETOLD (nothing changes).");
        FeetAndRhymes x = Due.told("q0,1;4tata,2to;1ob,5tata;");
        x.row(0, 0, 2);
        x.image(1);
        x.become(0, 1);
        x.ask(0, 0);
        x.set(0, 2, 0);
        x.ends(0, 1);
        x.kinds(0, 3);
        x.kinds(3, 3);
        for (int which = 0; which < 3; which++) {
            x.who(1, which, 0, 0);
        }
        x.stressed(0, 5, 5, 0);
        x.stressed(1, 5, 10, 1);
        x.drawn(20, 77, 0);
        x.drawn(20, 999999, 1);
        Due.same("the poem", "q0,1;1tata,2to;1ob,5tata;", Due.poemOf(x));
        Due.is("one act", 1, x.count(5));
        Due.is("the trace", 11, x.trace(0));
        Due.is("one row", 1, x.count(0));
        Due.is("undone", 0, x.undo());
        Due.same("as it was", "q0,1;4tata,2to;1ob,5tata;", Due.poemOf(x));
        Due.is("the other image was not kept", Due.STATE, x.restore(0));
        Due.is("the image", 1, x.restore(1));
        Due.same("as it was kept", "q0,1;4tata,2to;1ob,5tata;", Due.poemOf(x));
    }

    // ---- ends

    private static void ends() {
        Edge.of("Terms 3", "ENDS for a LINE and another one: WORDS (bits) that would RHYME with the other one, "
                + "stood they at the end of the LINE in place of its last WORD");
        FeetAndRhymes x = Due.told("q0,1;1stone;4a,2alone;1bat,4tone,5ban;");
        Due.is("on: words 0, 2, 4, for line 2", 21, x.ends(2, 0));
        Due.is("on: by line 1", 21, x.ends(2, 1));
        Due.is("an: word 5, for line 0", 32, x.ends(0, 2));
        Due.is("an: word 5, for line 1", 32, x.ends(1, 2));
        x.become(2, 1);
        Due.is("alone is alon now", 17, x.ends(2, 0));
        Due.is("alon: word 2 alone", 4, x.ends(0, 1));
        FeetAndRhymes full = Due.told("q0,1;1a,1e,1i,1o,1u;1a,1e,1i,1o,1u;1a,1e,1i,1o,1u;1u,1o,1i,1e,1a;");
        Due.is("of twenty, those on u", 1 << 4 | 1 << 9 | 1 << 14 | 1 << 15, full.ends(3, 0));
        Due.is("of twenty, those on a", 1 | 1 << 5 | 1 << 10 | 1 << 19, full.ends(0, 3));
    }

    private static void thatOneToo() {
        Edge.of("Terms 3", "(that one, too, as it is).");
        FeetAndRhymes x = Due.told("q0,1;1ta,1stone;2alone;1bone;");
        Due.is("stone rhymes as it is, and the others", 14, x.ends(0, 1));
        Due.is("alone, too", 14, x.ends(1, 2));
        x.become(2, 1);
        Due.is("alone as it is: no", 10, x.ends(1, 2));
        Due.is("for the others: no", 10, x.ends(0, 2));
    }

    // ---- kinds

    private static void kinds() {
        Edge.of("Terms 3", "KINDS (bits 1 to 5) of a WORD by which LEAST of its LINE by the METRE is v (0 to 99).");
        // FIRST and EVEN cost 5, LAST and SMALL nothing, MUTE 3.
        FeetAndRhymes x = Due.told("q0,1;1tata;1ta;");
        int all = 0;
        for (int v = 0; v <= 99; v++) {
            int want = v == 0 ? 1 << 2 | 1 << 4 : v == 3 ? 1 << 5 : v == 5 ? 1 << 1 | 1 << 3 : 0;
            Due.is("kinds by " + v, want, x.kinds(0, v));
            all |= x.kinds(0, v);
            Due.is("no scan is no number: by " + v, 0, x.kinds(1, v));
        }
        Due.is("bits 1 to 5", 62, all);
        FeetAndRhymes y = Due.told("q1,1;1tata;1ta;");
        Due.is("of another line, by another metre", 30, y.kinds(1, 1));
        Due.is("MUTE", 32, y.kinds(1, 4));
        Due.is("its own line alone", 26, y.kinds(0, 0));
        FeetAndRhymes z = changed();
        Due.is("as the line is by now: 0", 20, z.kinds(1, 0));
        Due.is("as the line is by now: 3", 32, z.kinds(1, 3));
        Due.is("as the line is by now: 5", 10, z.kinds(1, 5));
        z.undo();
        z.undo();
        Due.is("as the line was: strong weak, strong", 0, z.kinds(1, 0));
        z.undo();
        Due.is("as the metre was: strong weak, strong has no scan by 1 1", 0, z.kinds(1, 1));
        z.restore(0);
        Due.is("as the image is: 1 more", 2 + 8 + 16, z.kinds(1, 1));
    }

    /** A line that costs 5 by 0 1 as its FIRST does, behind four acts; the image has another one. */
    private static FeetAndRhymes changed() {
        FeetAndRhymes x = Due.told("q1,1;1ta;1tata,5ta;");
        x.image(0);
        x.become(2, 1);
        x.metre(0, 1);
        x.take(2);
        x.become(0, 5);
        return x;
    }

    // ---- what a row tells

    private static int whoOf(String text, int word, int which, int... items) {
        FeetAndRhymes x = Due.told(text);
        x.row(0, 2, items.length);
        for (int i = 0; i < items.length; i++) {
            x.set(0, i, items[i]);
        }
        return x.who(word, which, 0, 0);
    }

    private static void rowTells() {
        Edge.of("Terms 3", "A row tells LEAST of LINES 0, 1, .. by the METRE");
        String text = "q0,1;1tata;1ta,1ta;2tata;5tata;";
        Due.is("5, 2, 0, 3", 2, whoOf(text, 0, 0, 5, 2, 0, 3));
        for (int l = 0; l < 4; l++) {
            int[] items = {5, 2, 0, 3};
            items[l]++;
            Due.is("not so of line " + l, 0, whoOf(text, 0, 0, items));
        }
        Due.is("not in another order", 0, whoOf(text, 0, 0, 2, 5, 0, 3));
        Due.is("what stands behind is no matter", 2, whoOf(text, 0, 0, 5, 2, 0, 3, 9, 9));
        FeetAndRhymes x = Due.told(text);
        x.row(0, 0, 40);
        x.set(0, 35, 1);
        x.set(0, 36, 5);
        x.set(0, 37, 2);
        x.set(0, 39, 3);
        Due.is("from 36 on", 2, x.who(0, 0, 0, 36));
        Due.is("from 35 on", 0, x.who(0, 0, 0, 35));
    }

    private static void rowTellsNone() {
        Edge.of("Terms 3", "(-1: NONE):");
        Due.is("none by 2 and more feet", 60, whoOf("q0,1;1tata;", 0, 0, -1));
        Due.is("none but by -1", 0, whoOf("q0,1;1tata;", 0, 0, Due.NONE));
        Due.is("none but by -1", 0, whoOf("q0,1;1tata;", 0, 0, -2));
        Due.is("one has a scan, one has none", 2, whoOf("q0,1;1tata;1ta;", 0, 0, 5, -1));
        Due.is("the other way about", 0, whoOf("q0,1;1tata;1ta;", 0, 0, -1, 5));
        FeetAndRhymes x = Due.told("q0,1;1tata;");
        x.row(0, 0, 1);
        x.set(0, 0, 255);
        Due.is("a byte of 255 is -1", 60, x.who(0, 0, 0, 0));
        x.row(0, 1, 1);
        x.set(0, 0, 255);
        Due.is("a short of 255 is not", 0, x.who(0, 0, 0, 0));
    }

    private static void whoFeet() {
        Edge.of("Terms 3", "FEET (bits 1 to 5) of the METRE by which it is so,");
        for (int feet = 1; feet <= 5; feet++) {
            String line = "2tata" + ",2tata".repeat(feet - 1) + ";";
            Due.is("nothing by " + feet, 1 << feet, whoOf("q0,1;" + line, 0, 0, 0));
            Due.is("nothing by " + feet + ", whatever they are", 1 << feet, whoOf("q0,5;" + line, 0, 0, 0));
            Due.is("not by another foot", 0, whoOf("q1,1;" + line, 0, 0, 0));
        }
        // One more by 2, one missing by 3 feet of 1.
        Due.is("by several", 12, whoOf("q1,1;1tata,1tata,4ta;", 0, 0, 1));
    }

    private static void whoFoot() {
        Edge.of("Terms 3", "FOOT (bits 0 to 3),");
        String[] words = {"2tata", "1tata", "2tatata", "1tatata"};
        for (int foot = 0; foot < 4; foot++) {
            for (int was = 0; was < 4; was++) {
                String text = "q" + was + ",2;" + words[foot] + "," + words[foot] + ";";
                Due.is("nothing by foot " + foot, 1 << foot, whoOf(text, 0, 1, 0));
            }
            Due.is("not by other feet", 0, whoOf("q0,3;" + words[foot] + "," + words[foot] + ";", 0, 1, 0));
        }
        Due.is("none by any of four feet", 15, whoOf("q0,4;1ta;", 0, 1, -1));
        Due.is("by several", 3, whoOf("q0,1;4tata;", 0, 1, 0));
    }

    private static void whoKinds() {
        Edge.of("Terms 3", "KINDS of a WORD.");
        String text = "q0,1;1tata;5tata;";
        Due.is("5: FIRST, EVEN", 10, whoOf(text, 0, 2, 5, 3));
        Due.is("0: LAST, SMALL", 20, whoOf(text, 0, 2, 0, 3));
        Due.is("3: MUTE", 32, whoOf(text, 0, 2, 3, 3));
        Due.is("of the other word", 20, whoOf(text, 1, 2, 5, 0));
        Due.is("the other line is as it is", 0, whoOf(text, 0, 2, 5, 0));
        Due.is("no scan by any", 62, whoOf("q0,2;1tata;5tata;", 0, 2, -1, -1));
        FeetAndRhymes x = changed();
        x.row(0, 0, 2);
        x.set(0, 0, -1);
        Due.is("as the poem is by now: 0", 20, x.who(1, 2, 0, 0));
        x.set(0, 1, 3);
        Due.is("as the poem is by now: 3", 32, x.who(1, 2, 0, 0));
        x.set(0, 1, 5);
        Due.is("as the poem is by now: 5", 10, x.who(1, 2, 0, 0));
    }

    // ---- stressed

    private static void chance(String text, int v, int p, long above, long below) {
        FeetAndRhymes x = Due.told(text);
        Due.is("above of " + text + " " + v + " by " + p, above, x.stressed(0, v, p, 0));
        Due.is("below of " + text + " " + v + " by " + p, below, x.stressed(0, v, p, 1));
    }

    private static void chances() {
        Edge.of("Terms 3", "STRESSED by p of 10 (0 to 10):");
        // Weak strong costs 0, strong strong 2, weak weak 3, strong weak 5.
        chance("q0,1;4tata;", 3, 0, 1, 1);
        chance("q0,1;4tata;", 2, 0, 0, 1);
        chance("q0,1;4tata;", 2, 10, 1, 1);
        chance("q0,1;4tata;", 1, 10, 0, 1);
        chance("q0,1;4ta,1ta;", 0, 0, 1, 1);
        chance("q0,1;4ta,1ta;", 0, 10, 0, 1);
        chance("q0,1;4ta,1ta;", 0, 1, 9, 10);
        chance("q0,1;4ta,1ta;", 0, 9, 1, 10);
        FeetAndRhymes x = Due.told("q0,1;4tata;");
        Due.is("p 11", Due.BAD, x.stressed(0, 0, 11, 0));
        Due.is("p -1", Due.BAD, x.stressed(0, 0, -1, 0));
    }

    private static void apart() {
        Edge.of("Terms 3", "each SYLLABLE that is EITHER in a LINE is STRONG in p of 10 cases, else WEAK, apart:");
        chance("q0,1;4tata;", 0, 3, 21, 100);
        chance("q0,1;4tata;", 2, 3, 3, 10);
        chance("q0,1;4tata;", 3, 3, 79, 100);
        chance("q0,1;4tata;", 4, 3, 79, 100);
        chance("q0,1;4tata;", 5, 3, 1, 1);
        // Those that are not either stay as they are.
        chance("q0,1;4ta,2ta;", 0, 3, 7, 10);
        chance("q0,1;5ta,4ta;", 0, 3, 3, 10);
        chance("q0,1;2tata;", 0, 3, 1, 1);
        chance("q0,1;5tata;", 2, 3, 0, 1);
        chance("q0,1;5tata;", 3, 3, 1, 1);
        // The scan is the least of each case: strong weak, weak strong is turned.
        chance("q0,2;4tata,2tata;", 1, 5, 1, 2);
        // A syllable that is lost to the next one has no say.
        chance("q0,1;5ta,4to,2o;", 1, 3, 1, 1);
        // Eight: each of 256 cases by itself.
        chance("q0,4;4tata,4tata,4tata,4tata;", 0, 5, 1, 256);
        chance("q0,4;4tata,4tata,4tata,4tata;", 0, 1, 6561, 100000000);
        chance("q0,4;4tata,4tata,4tata,4tata;", 0, 3, 194481, 100000000);
        chance("q0,4;4tata,4tata,4tata,4tata;", 99, 3, 1, 1);
    }

    private static void vOrLess() {
        Edge.of("Terms 3", "how likely LEAST by the METRE is v or less (0 to 99): a fraction.");
        for (int v = 0; v <= 99; v++) {
            FeetAndRhymes x = Due.told("q0,1;4tata;");
            long want = v < 2 ? 1 : v < 3 ? 2 : v < 5 ? 3 : 4;
            long above = x.stressed(0, v, 5, 0);
            long below = x.stressed(0, v, 5, 1);
            Due.is(v + " or less, of four", 4 * above, want * below);
        }
        // No scan is neither: one more must not be strong.
        chance("q0,1;2tata,4ta;", 99, 3, 7, 10);
        chance("q0,1;2tata,4ta;", 0, 3, 0, 1);
        chance("q0,1;1ta;", 99, 3, 0, 1);
        FeetAndRhymes x = Due.told("q0,1;4tata;");
        Due.is("v 100", Due.BAD, x.stressed(0, 100, 5, 0));
        Due.is("v -1", Due.BAD, x.stressed(0, -1, 5, 0));
    }

    // ---- years

    private static void drawn(String text, int seed, int... sums) {
        FeetAndRhymes x = Due.told(text);
        for (int n = 0; n < sums.length; n++) {
            Due.is("together of " + n + " of " + text + " by " + seed, sums[n], x.drawn(n, seed, 0));
        }
    }

    private static void years() {
        Edge.of("Terms 3", "YEARS of n times (0 to 20) by a SEED (X at first):");
        FeetAndRhymes x = Due.told("q0,1;2tata;1ta;");
        Due.is("no time", 0, x.drawn(0, 1, 0));
        Due.is("no time, never none", 0, x.drawn(0, 1, 1));
        FeetAndRhymes y = Due.told("q0,2;1ta;");
        Due.is("twenty times", 20, y.drawn(20, 1, 1));
        Due.is("21 times", Due.BAD, y.drawn(21, 1, 1));
        Due.is("-1 times", Due.BAD, y.drawn(-1, 1, 1));
        // The seed itself is not drawn by: kinds 1, 4, 5 and so on are those of the X behind it.
        drawn("q0,1;2tata;", 1, 0, 5, 5, 8, 8, 8, 11);
    }

    private static void becomesTheRest() {
        Edge.of("Terms 3", "ahead of each X becomes the rest of (X times 16807) by 2147483647;");
        // 1: 16807, 282475249, 1622650073, 984943658: kinds 1, 4, 5, 4.
        drawn("q0,1;2tata;", 1, 0, 5, 5, 8, 8);
        // 16807 as the seed goes on from there.
        drawn("q0,1;2tata;", 16807, 0, 0, 3, 3, 3, 6);
        // 999999: 16806983193 less 7 times 2147483647 is 1774597664, which by 16 is 110912354: kind 5.
        drawn("q0,1;2tata;", 999999, 0, 3);
    }

    private static void wordDrawn() {
        Edge.of("Terms 3", "the WORD that is the rest of X by how many there are");
        // By two words it is 1, 1, 1, 0; the kinds are 1, 4, 5, 4.
        drawn("q0,1;1ta;2tata;", 1, 0, 5, 5, 8, 8);
        drawn("q0,1;2tata;1ta;", 1, 0, 0, 0, 0, 0);
        // By three it is 1, 1, 2, 2.
        drawn("q0,1;1ta;2tata;1tata;", 1, 0, 5, 5, 8, 8);
        drawn("q0,1;2tata;1ta;1tata;", 1, 0, 0, 0, 3, 3);
        drawn("q0,1;2tata;2tata;1ta;", 1, 0, 5, 5, 5, 5);
    }

    private static void kindDrawn() {
        Edge.of("Terms 3", "is of the KIND that X by 16 (cut) leaves by 5, and 1:");
        // The kinds 1, 4, 5, 4, 4, 5 cost 5, 0, 3, 0, 0, 3.
        drawn("q0,1;2tata;", 1, 0, 5, 5, 8, 8, 8, 11);
        // By these seeds the first X is 16807, 33614, 50421, .., by 16 it is 1050, 2100, 3151, 4201, 5252, 6302, 7353.
        int[] costs = {5, 5, 0, 0, 5, 5, 0};
        for (int seed = 1; seed <= costs.length; seed++) {
            drawn("q0,1;2tata;", seed, 0, costs[seed - 1]);
        }
    }

    private static void lineDrawn() {
        Edge.of("Terms 3", "LEAST of the LINE in which it is, by the METRE, behind each of these, together (NONE: none);");
        // Strong strong 2, strong either 2, strong weak 5, then either weak 3: a kind stays for those behind it.
        drawn("q0,1;2ta,2ta;", 1, 0, 2, 4, 9, 12);
        // The same by another metre: strong strong 2, strong either 0, strong weak 0, either weak 0.
        drawn("q1,1;2ta,2ta;", 1, 0, 2, 2, 2, 2);
        // A line that has no scan adds nothing.
        drawn("q0,1;1ta,1ta,1ta;", 1, 0, 0, 0, 3, 6);
        // The fourth draw is the other word, of a line that costs 0 all the time.
        drawn("q0,1;4tata;2tata;", 1, 0, 5, 5, 8, 8);
        FeetAndRhymes x = changed();
        Due.is("as the poem is by now", 5, x.drawn(2, 1, 0));
        Due.is("as the poem is by now", 8, x.drawn(3, 1, 0));
    }

    private static void howOftenNone() {
        Edge.of("Terms 3", "how often it was NONE.");
        FeetAndRhymes x = Due.told("q0,1;1ta;2tata;");
        int[] none = {0, 0, 0, 0, 1};
        for (int n = 0; n < none.length; n++) {
            Due.is("none of " + n, none[n], x.drawn(n, 1, 1));
        }
        FeetAndRhymes y = Due.told("q0,1;2tata;1ta;");
        int[] more = {0, 1, 2, 3, 3};
        for (int n = 0; n < more.length; n++) {
            Due.is("none of " + n, more[n], y.drawn(n, 1, 1));
        }
        FeetAndRhymes z = Due.told("q0,1;1ta;");
        for (int n = 0; n <= 20; n++) {
            Due.is("each of " + n, n, z.drawn(n, 4711, 1));
            Due.is("nothing together of " + n, 0, z.drawn(n, 4711, 0));
        }
    }

    // ---- promises 21 and 22

    private static void promises21And22() {
        Edge.of("Promise 21", "ENDS (bits).");
        FeetAndRhymes x = Due.told("q0,1;1ta;1te,1ta;1ti;");
        Due.is("words 0 and 2", 5, x.ends(2, 0));
        Due.is("word 3", 8, x.ends(0, 2));
        Edge.of("Promise 21", "BAD: one and the same, too.");
        for (int l = 0; l < 3; l++) {
            Due.is("line " + l + " twice", Due.BAD, x.ends(l, l));
        }
        Due.is("line 3", Due.BAD, x.ends(3, 0));
        Due.is("line 3 as the other", Due.BAD, x.ends(0, 3));
        for (int n : EdgesOfRows.NEVER) {
            Due.is("line " + n, Due.BAD, x.ends(n, 0));
            Due.is("line " + n + " as the other", Due.BAD, x.ends(0, n));
        }
        Due.is("no poem", Due.BAD, new FeetAndRhymes().ends(0, 1));
        Due.is("one line has no other", Due.BAD, Due.told("q0,1;1ta;").ends(0, 1));

        Edge.of("Promise 22", "KINDS by LEAST v.");
        FeetAndRhymes y = Due.told("q0,1;1tata;5tata;");
        Due.is("0", 20, y.kinds(0, 0));
        Due.is("3", 32, y.kinds(1, 3));
        Due.is("99", 0, y.kinds(1, 99));
        Edge.of("Promise 22", "BAD.");
        Due.is("no poem", Due.BAD, new FeetAndRhymes().kinds(0, 0));
        Due.is("word 2", Due.BAD, y.kinds(2, 0));
        Due.is("v 100", Due.BAD, y.kinds(0, 100));
        for (int n : EdgesOfRows.NEVER) {
            Due.is("word " + n, Due.BAD, y.kinds(n, 0));
            Due.is("v " + n, n == 20 ? 0 : Due.BAD, y.kinds(0, n));
        }
    }

    // ---- promise 23

    private static void promise23() {
        promise23Tells();
        promise23AsMany();
        promise23Word();
        promise23Others();
        promise23Null();
        promise23Place();
    }

    private static void promise23Tells() {
        Edge.of("Promise 23", "FEET (which = 0), FOOT (1), KINDS of a WORD (2),");
        Due.is("feet", 2, whoOf("q0,1;2tata;", 0, 0, 0));
        Due.is("foot", 1, whoOf("q0,1;2tata;", 0, 1, 0));
        Due.is("kinds", 20, whoOf("q0,1;2tata;", 0, 2, 0));
    }

    private static void promise23AsMany() {
        Edge.of("Promise 23", "as many ITEMS of a ROW from i on as there are LINES.");
        for (int lines = 1; lines <= 4; lines++) {
            FeetAndRhymes x = Due.told("q0,1;" + "2tata;".repeat(lines));
            x.row(0, 1, 40);
            for (int which = 0; which < 3; which++) {
                Due.is("the last ones", 1, x.who(0, which, 0, 40 - lines) > 0 ? 1 : 0);
                Due.is("one too few", Due.PLACE, x.who(0, which, 0, 41 - lines));
            }
            x.row(0, 1, lines);
            Due.is("all of them", 2, x.who(0, 0, 0, 0));
            x.row(0, 1, lines - 1);
            Due.is("one too few", Due.PLACE, x.who(0, 0, 0, 0));
        }
    }

    private static void promise23Word() {
        Edge.of("Promise 23", "BAD: WORD (always),");
        FeetAndRhymes x = new FeetAndRhymes();
        x.row(0, 0, 4);
        for (int which = 0; which < 3; which++) {
            Due.is("no poem", Due.BAD, x.who(0, which, 0, 0));
        }
        Due.tell(x, "q0,1;2tata;");
        for (int which = 0; which < 3; which++) {
            Due.is("word 1", Due.BAD, x.who(1, which, 0, 0));
            for (int n : EdgesOfRows.NEVER) {
                Due.is("word " + n, Due.BAD, x.who(n, which, 0, 0));
            }
        }
    }

    private static void promise23Others() {
        Edge.of("Promise 23", "which, ROW;");
        FeetAndRhymes x = Due.told("q0,1;2tata;");
        x.row(0, 0, 4);
        Due.is("which 3", Due.BAD, x.who(0, 3, 0, 0));
        Due.is("row 8", Due.BAD, x.who(0, 0, 8, 0));
        for (int n : EdgesOfRows.NEVER) {
            Due.is("which " + n, Due.BAD, x.who(0, n, 0, 0));
            Due.is("row " + n, Due.BAD, x.who(0, 0, n, 0));
        }
        Due.is("status stays", 0, x.status());
    }

    private static void promise23Null() {
        Edge.of("Promise 23", "NULL;");
        FeetAndRhymes x = Due.told("q0,1;2tata;");
        for (int which = 0; which < 3; which++) {
            Due.is("row 7", Due.NULL, x.who(0, which, 7, 0));
            Due.is("status 1", 1, x.status());
        }
        x.row(7, 0, 1);
        Due.is("there", 2, x.who(0, 0, 7, 0));
        Due.is("status 0", 0, x.status());
    }

    private static void promise23Place() {
        Edge.of("Promise 23", "PLACE.");
        FeetAndRhymes x = Due.told("q0,1;2tata;2tata;");
        x.row(0, 0, 3);
        Due.is("2 of 3", Due.PLACE, x.who(0, 0, 0, 2));
        Due.is("3 of 3", Due.PLACE, x.who(0, 1, 0, 3));
        for (int n : EdgesOfRows.NEVER) {
            Due.is("place " + n, Due.PLACE, x.who(0, 2, 0, n));
        }
        Due.is("status 2", 2, x.status());
        Due.is("1 of 3", 2, x.who(0, 0, 0, 1));
        Due.is("status 0", 0, x.status());
    }

    // ---- promises 24 and 25

    private static void promises24And25() {
        promise24Tells();
        promise24Bad();
        promise24Full();
        promise25Tells();
        promise25Bad();
        promise25State();
    }

    private static void promise24Tells() {
        Edge.of("Promise 24", "STRESSED: above (what = 0), below (1).");
        FeetAndRhymes x = Due.told("q0,1;1ta;4tata;");
        Due.is("above", 79, x.stressed(1, 3, 3, 0));
        Due.is("below", 100, x.stressed(1, 3, 3, 1));
        Due.is("never, above", 0, x.stressed(0, 3, 3, 0));
        Due.is("never, below", 1, x.stressed(0, 3, 3, 1));
    }

    private static void promise24Bad() {
        Edge.of("Promise 24", "BAD;");
        Due.is("no poem", Due.BAD, new FeetAndRhymes().stressed(0, 0, 0, 0));
        FeetAndRhymes x = Due.told("q0,1;1ta;4tata;");
        Due.is("line 2", Due.BAD, x.stressed(2, 0, 0, 0));
        Due.is("v 100", Due.BAD, x.stressed(0, 100, 0, 0));
        Due.is("p 11", Due.BAD, x.stressed(0, 0, 11, 0));
        Due.is("what 2", Due.BAD, x.stressed(0, 0, 0, 2));
        for (int n : EdgesOfRows.NEVER) {
            Due.is("line " + n, Due.BAD, x.stressed(n, 0, 0, 0));
            Due.is("v " + n, n == 20 ? 0 : Due.BAD, x.stressed(0, n, 0, 0));
            Due.is("p " + n, Due.BAD, x.stressed(0, 0, n, 0));
            Due.is("what " + n, Due.BAD, x.stressed(0, 0, 0, n));
        }
    }

    private static void promise24Full() {
        Edge.of("Promise 24", "FULL: more than 8 SYLLABLES that are EITHER (behind BAD).");
        FeetAndRhymes x = Due.told("q0,4;4tatatata,4tatatata;4tatatata,4tatatata,4ta;4tatata,4abata,4abata;1tata,5tata;");
        Due.is("eight: above", 1, x.stressed(0, 0, 5, 0));
        Due.is("eight: below", 256, x.stressed(0, 0, 5, 1));
        Due.is("nine", Due.FULL, x.stressed(1, 0, 5, 0));
        Due.is("nine", Due.FULL, x.stressed(1, 99, 0, 1));
        Due.is("nine that run together", Due.FULL, x.stressed(2, 0, 5, 0));
        Due.is("none of its own", 1, x.stressed(3, 0, 5, 1));
        Due.is("nine, and v 100", Due.BAD, x.stressed(1, 100, 5, 0));
        Due.is("nine, and p 11", Due.BAD, x.stressed(1, 0, 11, 0));
        Due.is("nine, and what 2", Due.BAD, x.stressed(1, 0, 5, 2));
        x.become(4, 5);
        Due.is("eight and a weak one", 256, x.stressed(1, 1, 5, 1));
        FeetAndRhymes most = Due.told("q0,4;4tatatata,4tatatata,4tatatata,4tatatata,4tatatata;");
        Due.is("twenty", Due.FULL, most.stressed(0, 0, 5, 0));
    }

    private static void promise25Tells() {
        Edge.of("Promise 25", "YEARS by a SEED (1 to 999999): together (what = 0), how often NONE (1).");
        FeetAndRhymes x = Due.told("q0,1;2tata;");
        Due.is("seed 1", 5, x.drawn(1, 1, 0));
        Due.is("seed 999999", 3, x.drawn(1, 999999, 0));
        Due.is("seed 1, never none", 0, x.drawn(1, 1, 1));
        x.metre(0, 2);
        Due.is("seed 999999, all none", 20, x.drawn(20, 999999, 1));
        Due.is("seed 999999, nothing together", 0, x.drawn(20, 999999, 0));
    }

    private static void promise25Bad() {
        Edge.of("Promise 25", "BAD;");
        FeetAndRhymes x = Due.told("q0,1;2tata;");
        Due.is("n 21", Due.BAD, x.drawn(21, 1, 0));
        Due.is("seed 0", Due.BAD, x.drawn(1, 0, 0));
        Due.is("seed 1000000", Due.BAD, x.drawn(1, 1000000, 0));
        Due.is("no times, seed 0", Due.BAD, x.drawn(0, 0, 0));
        Due.is("what 2", Due.BAD, x.drawn(1, 1, 2));
        for (int n : new int[] {-1, -1000000, Integer.MIN_VALUE, Integer.MAX_VALUE}) {
            Due.is("n " + n, Due.BAD, x.drawn(n, 1, 0));
            Due.is("seed " + n, Due.BAD, x.drawn(1, n, 0));
            Due.is("what " + n, Due.BAD, x.drawn(1, 1, n));
        }
    }

    private static void promise25State() {
        Edge.of("Promise 25", "STATE: no POEM (ahead of BAD).");
        FeetAndRhymes x = new FeetAndRhymes();
        Due.is("as told", Due.STATE, x.drawn(1, 1, 0));
        Due.is("n 21", Due.STATE, x.drawn(21, 1, 0));
        Due.is("seed 0", Due.STATE, x.drawn(1, 0, 0));
        Due.is("what 2", Due.STATE, x.drawn(1, 1, 2));
    }

    // ---- promises 26 and 27

    private static void promises26And27() {
        promise26Kept();
        promise26Bad();
        promise26State();
        promise27Restored();
        promise27NoAct();
        promise27Bad();
        promise27State();
    }

    private static void promise26Kept() {
        Edge.of("Promise 26", "An IMAGE (0, 1) is kept of the POEM: 1.");
        FeetAndRhymes x = Due.told("q0,1;1ta;");
        Due.is("image 0", 1, x.image(0));
        x.become(0, 5);
        Due.is("image 1", 1, x.image(1));
        x.metre(3, 5);
        Due.is("the acts stay", 2, x.count(5));
        Due.is("0", 1, x.restore(0));
        Due.same("as it was", "q0,1;1ta;", Due.poemOf(x));
        Due.is("1", 1, x.restore(1));
        Due.same("as it was", "q0,1;5ta;", Due.poemOf(x));
        x.metre(2, 2);
        Due.is("image 0 in place of what was kept", 1, x.image(0));
        x.metre(1, 1);
        Due.is("0", 1, x.restore(0));
        Due.same("as it was", "q2,2;5ta;", Due.poemOf(x));
        Due.is("1", 1, x.restore(1));
        Due.same("as it was", "q0,1;5ta;", Due.poemOf(x));
    }

    private static void promise26Bad() {
        Edge.of("Promise 26", "BAD;");
        FeetAndRhymes x = new FeetAndRhymes();
        Due.is("image 2, and no poem", Due.BAD, x.image(2));
        Due.is("image -1, and no poem", Due.BAD, x.image(-1));
        Due.tell(x, "q0,1;1ta;");
        Due.is("image 2", Due.BAD, x.image(2));
        for (int n : EdgesOfRows.NEVER) {
            Due.is("image " + n, Due.BAD, x.image(n));
        }
    }

    private static void promise26State() {
        Edge.of("Promise 26", "STATE: no POEM.");
        FeetAndRhymes x = new FeetAndRhymes();
        Due.is("image 0", Due.STATE, x.image(0));
        Due.is("image 1", Due.STATE, x.image(1));
        Due.is("none was kept", Due.STATE, x.restore(0));
        Due.tell(x, "q0,1;1ta;");
        Due.is("image 1", 1, x.image(1));
    }

    private static void promise27Restored() {
        Edge.of("Promise 27", "The POEM is as an IMAGE kept it");
        String text = "q3,2;1stone,2alone;3banana;4the,5a;";
        FeetAndRhymes x = Due.told(text);
        Due.spell(x, 0, "stony");
        x.image(0);
        x.metre(1, 1);
        x.take(0);
        x.put(1, 0, 5, 0, 5);
        x.swap(0, 3);
        x.become(1, 3);
        Due.is("as it was", 1, x.restore(0));
        Due.same("as it was", text, Due.poemOf(x));
        x.swap(0, 4);
        x.put(2, 2, 1, 0, 5);
        Due.is("once more", 1, x.restore(0));
        Due.same("as it was", text, Due.poemOf(x));
        Due.is("another poem", 1, Due.tell(x, "q0,1;1ta;"));
        Due.is("once more", 1, x.restore(0));
        Due.same("as it was", text, Due.poemOf(x));
        Due.is("rows stay", 1, x.count(0));
    }

    private static void promise27NoAct() {
        Edge.of("Promise 27", "(no ACT can be undone then): 1.");
        FeetAndRhymes x = Due.told("q0,1;1ta;");
        x.become(0, 2);
        x.image(1);
        x.become(0, 3);
        Due.is("two acts", 2, x.count(5));
        Due.is("restored", 1, x.restore(1));
        Due.is("no act", 0, x.count(5));
        Due.is("none is undone", Due.STATE, x.undo());
        Due.is("as it was kept", 2, x.become(0, 4));
        Due.is("one act", 1, x.count(5));
        Due.is("undone", 0, x.undo());
        Due.is("as it was kept", 2, x.kind(0));
    }

    private static void promise27Bad() {
        Edge.of("Promise 27", "BAD;");
        FeetAndRhymes x = new FeetAndRhymes();
        Due.is("image 2, and none was kept", Due.BAD, x.restore(2));
        Due.tell(x, "q0,1;1ta;");
        x.image(0);
        x.image(1);
        Due.is("image 2", Due.BAD, x.restore(2));
        for (int n : EdgesOfRows.NEVER) {
            Due.is("image " + n, Due.BAD, x.restore(n));
        }
    }

    private static void promise27State() {
        Edge.of("Promise 27", "STATE: none was kept.");
        FeetAndRhymes x = new FeetAndRhymes();
        Due.is("0", Due.STATE, x.restore(0));
        Due.is("1", Due.STATE, x.restore(1));
        Due.tell(x, "q0,1;1ta;");
        x.become(0, 2);
        x.image(1);
        Due.is("0", Due.STATE, x.restore(0));
        Due.is("the act stays", 1, x.count(5));
        Due.is("1", 1, x.restore(1));
    }
}
