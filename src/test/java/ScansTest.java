/** Promises 17 to 20: scans, the nearest metre, the whole poem, rhymes. */
public final class ScansTest {
    public static void main(String[] args) {
        promise17Places();
        promise17Joined();
        promise17Ends();
        promise17Refused();
        promise18();
        promise19();
        promise19Names();
        promise20();
        Due.end();
    }

    private static void scan(String line, int foot, int feet, int least, int ways) {
        FeetAndRhymes x = Due.told("q0,1;" + line + ";");
        Due.is("least of " + line + " by " + foot + " " + feet, least, x.scan(0, foot, feet, 0));
        Due.is("ways of " + line + " by " + foot + " " + feet, ways, x.scan(0, foot, feet, 1));
    }

    private static void promise17Places() {
        // The line is either, strong weak, either, either, strong; nothing runs together.
        String line = "4the,1river,4of,4a,1stone";
        scan(line, 0, 3, 0, 1);
        scan(line, 0, 2, Due.NONE, 0);
        scan(line, 0, 4, Due.NONE, 0);
        scan(line, 1, 3, 6, 1);
        scan(line, 2, 2, 3, 1);
        scan(line, 3, 2, 4, 1);
        scan(line, 3, 3, Due.NONE, 0);
        scan(line, 2, 1, Due.NONE, 0);
        // A strong one in a weak place costs 2, a weak one in a strong place 3.
        scan("1batab", 0, 1, 5, 1);
        scan("5batab", 0, 1, 3, 1);
        scan("1bat,1bat", 0, 1, 2, 1);
        scan("4batab", 0, 1, 0, 1);
        scan("1batab", 1, 1, 0, 1);
        // One foot is never turned; of two the first may be, at 1.
        scan("1batab,2batab", 0, 2, 1, 1);
        scan("2batab,1batab", 0, 2, 5, 1);
        scan("1batab,2batab", 1, 2, 5, 1);
        scan("2batab,1batab", 1, 2, 1, 1);
        scan("1batabab,2batabab", 2, 2, 1, 1);
        scan("2batabab,1batabab", 3, 2, 1, 1);
        scan("2batabab,2batabab", 2, 2, 0, 1);
        scan("1batabab,1batabab", 3, 2, 0, 1);
        scan("1batabab", 2, 1, 5, 1);
        scan("5bat,5bat,5bat,5bat", 0, 2, 6, 1);
        scan("4batab,4batab", 0, 2, 0, 1);
    }

    private static void promise17Joined() {
        scan("1abu,1abu", 0, 2, 6, 1);
        scan("1abu,1abu", 1, 2, 0, 1);
        // The one syllable is as that of the next one.
        scan("2abu,1o", 0, 1, 1, 1);
        scan("1abu,2o", 0, 1, 3, 1);
        scan("2abu,5o", 0, 1, 1, 1);
        // An e that does not sound, or a consonant, runs into nothing; nor does a vowel into a consonant.
        scan("2abute,1o", 0, 1, Due.NONE, 0);
        scan("2abut,1o", 0, 1, Due.NONE, 0);
        scan("2abu,1no", 0, 1, Due.NONE, 0);
        scan("2aboe,1o", 0, 1, 1, 1);
        scan("4the,2a", 1, 1, 2, 2);
        // A word of one syllable does not run to both sides; one of two does.
        scan("4oo,4ee,4ao,4ia,4ue", 1, 1, 3, 7);
        scan("4oo,4ee,4ao,4ia,4ue", 1, 2, 1, 5);
        scan("4oo,4ee,4ao,4ia,4ue", 1, 3, 1, 1);
        scan("4to,4ee,1tun", 3, 1, 2, 1);
        scan("4o,4idea,1o", 0, 1, 2, 1);
        scan("4o,4i,1o", 1, 1, 3, 2);
    }

    private static void promise17Ends() {
        // Fewer: as many as the last foot has weak places at its end.
        scan("1bat", 1, 1, 1, 1);
        scan("1bat", 3, 1, 2, 1);
        scan("1bat", 0, 1, Due.NONE, 0);
        scan("1bat", 2, 1, Due.NONE, 0);
        scan("1batab", 3, 1, 1, 1);
        scan("1batab,1bat", 1, 2, 1, 1);
        scan("1batabab,1bat", 3, 2, 2, 1);
        scan("1bat,1bat,1bat", 3, 2, Due.NONE, 0);
        // More: 2 at most, none of them strong.
        scan("2abut,5bat", 0, 1, 1, 1);
        scan("2abut,4bat", 0, 1, 1, 1);
        scan("2abut,5bat,5bat", 0, 1, 2, 1);
        scan("2abut,5bat,5bat,5bat", 0, 1, Due.NONE, 0);
        scan("2abut,1bat,5bat", 0, 1, Due.NONE, 0);
        scan("2abut,5bat,1bat", 0, 1, Due.NONE, 0);
        scan("1abut,5bat,4bat", 1, 1, 2, 1);
        scan("2abu,5o,5o", 0, 1, 2, 2);
        scan("2abu,5o,5o,5o", 0, 1, 3, 2);
        scan("4abababab,4abababab,4abababab,4abababab,4a", 2, 5, 2, 1);
        scan("4abababab,4abababab,4abababab,4abababab,4abab", 2, 5, Due.NONE, 0);
    }

    private static void promise17Refused() {
        FeetAndRhymes x = new FeetAndRhymes();
        Due.is("no poem", Due.BAD, x.scan(0, 0, 1, 0));
        Due.tell(x, "q0,1;1ta;2ta;");
        Due.is("no line -1", Due.BAD, x.scan(-1, 0, 1, 0));
        Due.is("no line 2", Due.BAD, x.scan(2, 0, 1, 0));
        Due.is("foot -1", Due.BAD, x.scan(0, -1, 1, 0));
        Due.is("foot 4", Due.BAD, x.scan(0, 4, 1, 0));
        Due.is("feet 0", Due.BAD, x.scan(0, 0, 0, 0));
        Due.is("feet 6", Due.BAD, x.scan(0, 0, 6, 0));
        Due.is("what -1", Due.BAD, x.scan(0, 0, 1, -1));
        Due.is("what 2", Due.BAD, x.scan(0, 0, 1, 2));
    }

    private static void nearest(String line, int foot, int feet, int least) {
        FeetAndRhymes x = Due.told("q3,5;1ta;" + line + ";");
        Due.is("foot nearest to " + line, foot, x.nearest(1, 0));
        Due.is("feet nearest to " + line, feet, x.nearest(1, 1));
        Due.is("least by the nearest to " + line, least, x.nearest(1, 2));
    }

    private static void promise18() {
        nearest("4the,1river,4of,4a,1stone", 0, 3, 0);
        nearest("1batab", 1, 1, 0);
        nearest("1bat", 1, 1, 1);
        nearest("2batabab", 2, 1, 0);
        nearest("2batab,2batab,2batab,2batab,2batab", 0, 5, 0);
        nearest("1batab,1batab,1batab,1batab,1batab", 1, 5, 0);
        nearest("2batabab,2batabab,2batabab,2batabab,2batabab", 2, 5, 0);
        nearest("1batabab,1batabab,1batabab,1batabab,1batabab", 3, 5, 0);
        nearest("1batabab,1batabab", 3, 2, 0);
        // Several are alike: the lesser foot goes ahead, then the lesser number of feet.
        nearest("4batab", 0, 1, 0);
        nearest("4oo,4ee,4ao,4ia,4ue", 0, 2, 1);
        nearest("4bat,4bat,4bat,4bat,4bat", 0, 2, 1);
        nearest("4abababab,4abababab,4abababab,4abababab,4abab", Due.NONE, Due.NONE, Due.NONE);
        FeetAndRhymes x = new FeetAndRhymes();
        Due.is("no poem", Due.BAD, x.nearest(0, 0));
        Due.tell(x, "q0,1;1ta;2ta;");
        Due.is("no line -1", Due.BAD, x.nearest(-1, 0));
        Due.is("no line 2", Due.BAD, x.nearest(2, 0));
        Due.is("what -1", Due.BAD, x.nearest(0, -1));
        Due.is("what 3", Due.BAD, x.nearest(0, 3));
    }

    private static void promise19() {
        FeetAndRhymes x = new FeetAndRhymes();
        Due.is("no poem", Due.STATE, x.whole(0));
        Due.is("no poem goes ahead of BAD", Due.STATE, x.whole(8));
        // By 0 1: 5, 2, 0, together 7; by 1 1: 0, 2, 5: 7 too; by 3 1: 1, 3, 6.
        Due.tell(x, "q0,1;1batab;1bat,1bat;2batab;");
        whole(x, 0, 1, 7, 0, 1, 7);
        x.metre(3, 1);
        whole(x, 3, 1, 10, 0, 1, 7);
        x.metre(2, 1);
        whole(x, 2, 1, Due.NONE, 0, 1, 7);
        // Now by 1 1: 0, 2, 0.
        x.become(3, 1);
        whole(x, 2, 1, Due.NONE, 1, 1, 2);
        Due.tell(x, "q0,1;2batab;2batabab,2batabab;");
        whole(x, 0, 1, Due.NONE, Due.NONE, Due.NONE, Due.NONE);
        Due.is("what -1", Due.BAD, x.whole(-1));
        Due.is("what 8", Due.BAD, x.whole(8));
    }

    private static void whole(FeetAndRhymes x, int... want) {
        for (int what = 0; what < want.length; what++) {
            Due.is("whole " + what, want[what], x.whole(what));
        }
    }

    private static void scheme(String text, int name, int numbers) {
        FeetAndRhymes x = Due.told(text);
        Due.is("name of " + text, name, x.whole(6));
        Due.is("numbers of " + text, numbers, x.whole(7));
    }

    private static void promise19Names() {
        scheme("q0,1;1bone;1stone;1ban;1tan;", 1, 2);
        scheme("q0,1;1bone;1ban;1stone;1tan;", 2, 2);
        scheme("q0,1;1bone;1ban;1tan;1stone;", 3, 2);
        scheme("q0,1;1bone;1on;2alone;5ton;", 4, 1);
        scheme("q0,1;1bone;1ban;1tin;1tan;", 5, 3);
        scheme("q0,1;1bone;1ban;1tin;1stone;", 0, 3);
        scheme("q0,1;1bone;1on;1ton;1tan;", 0, 2);
        scheme("q0,1;1bone;1tan;1ban;1an;", 0, 2);
        scheme("q0,1;1bone;1ban;1bin;1bun;", 0, 4);
        scheme("q0,1;1bone;1on;1ton;", 0, 1);
        scheme("q0,1;1bone;", 0, 1);
        FeetAndRhymes x = Due.told("q0,1;1bone;1ban;1tin;1tan;");
        for (int l = 0; l < 4; l++) {
            Due.is("number of line " + l, l == 3 ? 1 : l, x.line(l, 3));
        }
    }

    private static void promise20() {
        FeetAndRhymes x = new FeetAndRhymes();
        Due.is("no poem", Due.BAD, x.rhymes(0, 0));
        Due.tell(x, "q0,1;1stone,2alone;1stone;1alone;4no;");
        Due.is("on, on", 1, x.rhymes(0, 1));
        Due.is("on, alon", 0, x.rhymes(0, 2));
        Due.is("alon, on", 0, x.rhymes(2, 1));
        Due.is("on, o", 0, x.rhymes(1, 3));
        Due.is("one and the same", 1, x.rhymes(3, 3));
        x.become(3, 5);
        Due.is("on, on by another kind", 1, x.rhymes(2, 0));
        Due.is("no line -1", Due.BAD, x.rhymes(-1, 0));
        Due.is("no line 4", Due.BAD, x.rhymes(0, 4));
    }
}
