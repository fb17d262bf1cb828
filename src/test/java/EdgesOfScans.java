/** Metres and scans: what the terms say of them, and promises 17 to 19. */
final class EdgesOfScans {
    private static final int[] SIZES = {2, 2, 3, 3};
    private static final int[] WEAK_ENDS = {0, 1, 0, 2};

    private EdgesOfScans() { }

    static void all() {
        feet();
        turned();
        places();
        nextInTheLine();
        vowelToVowel();
        asThatOfTheNext();
        notToBothSides();
        joinsCost();
        firstTurned();
        fewer();
        more();
        noneOfThemStrong();
        standInPlaces();
        allTogether();
        least();
        ways();
        none();
        nearestOfLine();
        nearestOfSeveral();
        nearestOfPoem();
        nearestOfPoemLikewise();
        promise17Tells();
        promise17None();
        promise17Bad();
        promise18Tells();
        promise18None();
        promise18Bad();
        promise19Tells();
        promise19None();
        promise19Nearest();
        promise19Scheme();
        promise19Bad();
        promise19State();
    }

    private static void scan(String line, int foot, int feet, int least, int ways) {
        FeetAndRhymes x = Due.told("q0,1;" + line + ";");
        Due.is("least of " + line + " by " + foot + " " + feet, least, x.scan(0, foot, feet, 0));
        Due.is("ways of " + line + " by " + foot + " " + feet, ways, x.scan(0, foot, feet, 1));
    }

    private static void noScan(String line, int foot, int feet) {
        scan(line, foot, feet, Due.NONE, 0);
    }

    /** A line of so many syllables of a kind (4 either, 5 weak), 1 to 20, none of which run together. */
    private static String line(int kind, int syllables) {
        StringBuilder text = new StringBuilder();
        int left = syllables;
        while (left > 0) {
            int n = Math.min(4, left);
            text.append(left == syllables ? "" : ",").append(kind).append("ta".repeat(n));
            left -= n;
        }
        return text.toString();
    }

    private static void feet() {
        Edge.of("Terms 2", "FEET: FOOT 0 weak strong; 1 strong weak; 2 weak weak strong; 3 strong weak weak;");
        scan("5ta,1ta", 0, 1, 0, 1);
        scan("1ta,5ta", 0, 1, 5, 1);
        scan("1ta,5ta", 1, 1, 0, 1);
        scan("5ta,1ta", 1, 1, 5, 1);
        scan("5ta,5ta,1ta", 2, 1, 0, 1);
        scan("5ta,1ta,5ta", 2, 1, 5, 1);
        scan("1ta,5ta,5ta", 2, 1, 5, 1);
        scan("1ta,5ta,5ta", 3, 1, 0, 1);
        scan("5ta,1ta,5ta", 3, 1, 5, 1);
        scan("5ta,5ta,1ta", 3, 1, 5, 1);
    }

    private static void turned() {
        Edge.of("Terms 2", "TURNED 0 is as 1, 1 as 0, 2 as 3, 3 as 2.");
        scan("1tata,2tata", 0, 2, 1, 1);
        scan("2tata,1tata", 1, 2, 1, 1);
        scan("1tatata,2tatata", 2, 2, 1, 1);
        scan("2tatata,1tatata", 3, 2, 1, 1);
        // As they are they cost nothing.
        scan("2tata,2tata", 0, 2, 0, 1);
        scan("1tata,1tata", 1, 2, 0, 1);
        scan("2tatata,2tatata", 2, 2, 0, 1);
        scan("1tatata,1tatata", 3, 2, 0, 1);
    }

    private static void places() {
        Edge.of("Terms 2", "PLACES of a METRE: FEET times FOOT, one behind the other.");
        for (int foot = 0; foot < 4; foot++) {
            String word = (foot % 2 == 0 ? "2" : "1") + "ta".repeat(SIZES[foot]);
            StringBuilder text = new StringBuilder(word);
            for (int feet = 1; feet <= 5; feet++) {
                scan(text.toString(), foot, feet, 0, 1);
                text.append(',').append(word);
            }
            for (int feet = 1; feet <= 5; feet++) {
                scan(line(4, feet * SIZES[foot]), foot, feet, 0, 1);
            }
        }
    }

    private static void nextInTheLine() {
        Edge.of("Terms 2", "A SCAN of a LINE by a METRE: some of its WORDS run together with the next one in the LINE");
        FeetAndRhymes x = Due.told("q0,1;4tata,1to;1ob;");
        Due.is("not with the next line: a strong one is too many", Due.NONE, x.scan(0, 0, 1, 0));
        Due.is("nor with the line ahead", 1, x.scan(1, 1, 1, 0));
        scan("4tata,1ob", 0, 1, 1, 1);
        // Of nine three or four, of ten two or three or four, in all the ways that there are.
        scan("4tao,4ata,4ata,4ata,4ata", 0, 2, 5, 5);
        scan("4tao,4ata,4ata,4ata,4ata", 2, 2, 3, 14);
        scan("4ata,4ata,4ata,4ata,4ata", 2, 2, 4, 11);
        scan("4ata,4ata,4ata,4ata,4ata", 0, 2, 6, 1);
    }

    private static void vowelToVowel() {
        Edge.of("Terms 2", "(only a WORD the last letter of which is a vowel, one that sounds, "
                + "with one the first letter of which is a vowel:");
        for (char c = 'a'; c <= 'z'; c++) {
            int vowel = "aeiou".indexOf(c) >= 0 ? 1 : 0;
            joins("1ta" + c + ",1ob", vowel);
            joins("1to," + "1" + c + "ab", vowel);
        }
        joins("1tote,1ob", 0);
        joins("1the,1ob", 1);
        joins("1e,1e", 1);
        joins("1toe,1ob", 1);
        joins("1tot,1ob", 0);
        joins("1eve,1eve", 0);
        // Where they may not run together, a strong one is too many.
        scan("2tato,1ob", 0, 1, 1, 1);
        noScan("2tatote,1ob", 0, 1);
        noScan("2tatot,1ob", 0, 1);
        noScan("2tato,1tob", 0, 1);
        scan("2tatoe,1ob", 0, 1, 1, 1);
    }

    private static void joins(String line, int want) {
        FeetAndRhymes x = Due.told("q0,1;" + line + ";");
        Due.is("running together of " + line, want, x.line(0, 5));
    }

    private static void asThatOfTheNext() {
        Edge.of("Terms 2", "its last SYLLABLE and the first one of the next are one then, which is as that of the next;");
        // weak, then the strong one of ob in place of the weak one of tato
        scan("5tato,1ob", 0, 1, 1, 1);
        scan("1tato,1ob", 0, 1, 3, 1);
        // weak, then the weak one of obo in place of the strong one of tato, weak strong
        scan("2tato,5obo,1ta", 0, 2, 4, 1);
        // weak, then the either one of obo
        scan("2tato,4obo,1ta", 0, 2, 1, 1);
        scan("2ta,4o,1o", 1, 1, 3, 2);
        // Of three the last one stays, of a word of two syllables in the midst its own last one goes.
        scan("5to,1abo,1a", 1, 1, 4, 1);
    }

    private static void notToBothSides() {
        Edge.of("Terms 2", "a WORD of one SYLLABLE does not run together to both sides)");
        scan("4o,4i,1o", 1, 1, 3, 2);
        scan("4o,4idea,1o", 0, 1, 2, 1);
        scan("4oo,4ee,4ao,4ia,4ue", 1, 1, 3, 7);
        scan("4oo,4ee,4ao,4ia,4ue", 1, 2, 1, 5);
        scan("4oo,4ee,4ao,4ia,4ue", 1, 3, 1, 1);
        // Two strong ones are too many, as three of these cannot become one.
        noScan("5o,5o,5o,1o,1o", 0, 1);
        scan("5o,5o,1o,5o,5o", 0, 1, 3, 4);
        // One line's words of one syllable are nothing to another line.
        FeetAndRhymes x = Due.told("q0,1;4o,4i,1o;4o,4idea,1o;");
        for (int time = 0; time < 2; time++) {
            Due.is("a word of one syllable", 2, x.scan(0, 1, 1, 1));
            Due.is("a word of two", 2, x.scan(1, 0, 1, 0));
        }
    }

    private static void joinsCost() {
        Edge.of("Terms 2", "1 each;");
        scan("2tato,1ob", 0, 1, 1, 1);
        scan("5to,1ob", 1, 1, 2, 1);
        scan("4o,4aba,4aba,1a", 0, 2, 2, 3);
        scan("4o,4aba,4aba,1a", 2, 1, 3, 1);
        scan("4o,4aba,4aba,4aba,1a", 0, 2, 4, 1);
    }

    private static void firstTurned() {
        Edge.of("Terms 2", "the first FOOT TURNED or not (if FEET is 2 or more): 1.");
        // One foot is not turned.
        scan("1tata", 0, 1, 5, 1);
        scan("2tata", 1, 1, 5, 1);
        scan("1tatata", 2, 1, 5, 1);
        scan("2tatata", 3, 1, 5, 1);
        String[] others = {",2tata", ",1tata", ",2tatata", ",1tatata"};
        String[] turned = {"1tata", "2tata", "1tatata", "2tatata"};
        for (int foot = 0; foot < 4; foot++) {
            for (int feet = 2; feet <= 5; feet++) {
                scan(turned[foot] + others[foot].repeat(feet - 1), foot, feet, 1, 1);
            }
            // No foot but the first.
            scan(others[foot].substring(1) + "," + turned[foot], foot, 2, 5, 1);
        }
        // It is not turned where that costs more.
        scan("1ta,1ta,5ta,1ta", 0, 2, 2, 1);
        scan("5ta,5ta,5ta,1ta", 0, 2, 3, 1);
        scan("4ta,5ta,5ta,1ta", 0, 2, 1, 1);
        scan("1ta,4ta,5ta,1ta", 0, 2, 1, 1);
    }

    private static void fewer() {
        Edge.of("Terms 2", "Then there may be fewer SYLLABLES than PLACES by as many as the last FOOT has weak places "
                + "at its end: 1 each;");
        table(4, true);
        scan("1ta", 1, 1, 1, 1);
        scan("1ta", 3, 1, 2, 1);
        scan("1ta,5ta", 3, 1, 1, 1);
        noScan("1ta", 0, 1);
        noScan("1ta", 2, 1);
        noScan("5ta,1ta", 2, 1);
        // The last foot is as told where the first one is turned.
        scan("2tata,1ta", 1, 2, 2, 1);
        scan("2tatata,1ta", 3, 2, 3, 1);
        noScan("1tata,1ta", 0, 2);
        noScan("1tatata,1ta", 2, 2);
        noScan("1tatata", 3, 2);
    }

    private static void more() {
        Edge.of("Terms 2", "or 2 more at most,");
        table(4, false);
        scan("2tata,5ta", 0, 1, 1, 1);
        scan("2tata,5ta,5ta", 0, 1, 2, 1);
        noScan("2tata,5ta,5ta,5ta", 0, 1);
    }

    /** Of either ones alone each number of syllables has no cost but what it is short, or too many. */
    private static void table(int kind, boolean short1) {
        for (int n = 1; n <= 20; n++) {
            FeetAndRhymes x = Due.told("q0,1;" + line(kind, n) + ";");
            for (int m = 0; m < 20; m++) {
                int foot = m / 5;
                int feet = m % 5 + 1;
                int more = n - feet * SIZES[foot];
                if (more <= 0 == short1) {
                    boolean fits = short1 ? -more <= WEAK_ENDS[foot] : more <= 2;
                    String text = n + " either ones by " + foot + " " + feet;
                    Due.is("least of " + text, fits ? Math.abs(more) : Due.NONE, x.scan(0, foot, feet, 0));
                    Due.is("ways of " + text, fits ? 1 : 0, x.scan(0, foot, feet, 1));
                }
            }
        }
    }

    private static void noneOfThemStrong() {
        Edge.of("Terms 2", "if none of these last ones is STRONG: 1 each.");
        noScan("2tata,1ta", 0, 1);
        noScan("2tata,1ta,5ta", 0, 1);
        noScan("2tata,5ta,1ta", 0, 1);
        noScan("2tata,1ta,1ta", 0, 1);
        scan("2tata,4ta,5ta", 0, 1, 2, 1);
        scan("2tata,5ta,4ta", 0, 1, 2, 1);
        scan("2tata,4ta", 0, 1, 1, 1);
        noScan("1tata,4ta,1ta", 1, 1);
        noScan("2tatata,1tata", 2, 1);
        noScan("1tatata,2tata", 3, 1);
        // The ones in places may be strong.
        scan("1ta,1ta,5ta", 0, 1, 3, 1);
        scan("5ta,1ta,4tata", 0, 1, 2, 1);
    }

    private static void standInPlaces() {
        Edge.of("Terms 2", "SYLLABLES stand in PLACES one by one: a STRONG one in a weak place: 2; "
                + "a WEAK one in a strong place: 3; else nothing.");
        // kinds 1 strong, 4 either, 5 weak, in a weak place and a strong one
        int[] kinds = {1, 4, 5};
        int[] inWeak = {2, 0, 0};
        int[] inStrong = {0, 0, 3};
        for (int a = 0; a < 3; a++) {
            for (int b = 0; b < 3; b++) {
                String line = kinds[a] + "ta," + kinds[b] + "ta";
                scan(line, 0, 1, inWeak[a] + inStrong[b], 1);
                scan(line, 1, 1, inStrong[a] + inWeak[b], 1);
                for (int c = 0; c < 3; c++) {
                    String three = line + "," + kinds[c] + "ta";
                    scan(three, 2, 1, inWeak[a] + inWeak[b] + inStrong[c], 1);
                    scan(three, 3, 1, inStrong[a] + inWeak[b] + inWeak[c], 1);
                }
            }
        }
    }

    private static void allTogether() {
        Edge.of("Terms 2", "COST: all this together.");
        // Run together 1, turned 1, one more 1, a strong one in a weak place 2.
        scan("5a,1aba,1ba,1bata", 0, 2, 5, 1);
        // Turned, and in the other four feet a strong one and a weak one out of place.
        scan("1tata,1tata,1tata,1tata,1tata", 0, 5, 21, 1);
        // All four run together, turned, two missing; and there are 32 scans.
        scan("2aba,2aba,1aba,1abababa,4abababa", 3, 4, 7, 1);
        // Of fifteen weak ones five stand in strong places, and two are too many.
        scan(line(5, 15), 2, 5, 15, 1);
        scan(line(5, 17), 2, 5, 17, 1);
        scan(line(5, 13), 3, 5, 17, 1);
    }

    private static void least() {
        Edge.of("Terms 2", "LEAST of a LINE by a METRE: the least COST of all its SCANS;");
        // Not run together it is one too many, run together it has a weak one in a strong place.
        scan("2tata,5a", 0, 1, 1, 1);
        // Run together it costs 1, else a strong one is in a weak place.
        scan("5o,1o,5ta", 1, 1, 1, 1);
        scan("4o,4o", 0, 1, 0, 1);
    }

    private static void ways() {
        Edge.of("Terms 2", "WAYS: how many SCANS have it;");
        // One more or run together: 1 each.
        scan("2tato,4o", 0, 1, 1, 2);
        scan("2tabu,5o,5o", 0, 1, 2, 2);
        scan("4o,4o,4o", 0, 1, 1, 3);
        scan("4o,4o,4o,4o", 0, 1, 2, 5);
        scan("4o,4o,4o,4o,4o", 0, 1, 3, 7);
        scan("4to,4to", 0, 1, 0, 1);
    }

    private static void none() {
        Edge.of("Terms 2", "NONE: there is no SCAN.");
        noScan("4ta", 0, 1);
        noScan("4ta", 1, 2);
        noScan("4ta,4ta,4ta,4ta,4ta", 0, 1);
        noScan("1ta,1ta,1ta", 0, 1);
        noScan(line(4, 20), 3, 5);
        noScan(line(4, 18), 2, 5);
    }

    // ---- nearest

    private static void nearest(String line, int foot, int feet, int least) {
        FeetAndRhymes x = Due.told("q3,5;1ta;" + line + ";");
        Due.is("foot nearest to " + line, foot, x.nearest(1, 0));
        Due.is("feet nearest to " + line, feet, x.nearest(1, 1));
        Due.is("least by the nearest to " + line, least, x.nearest(1, 2));
    }

    private static void nearestOfLine() {
        Edge.of("Terms 2", "NEAREST of a LINE: the METRE (FOOT, FEET 1 to 5) of which LEAST is least,");
        for (int foot = 0; foot < 4; foot++) {
            String word = (foot % 2 == 0 ? "2" : "1") + "ta".repeat(SIZES[foot]);
            for (int feet = 1; feet <= 5; feet++) {
                nearest(word + ("," + word).repeat(feet - 1), foot, feet, 0);
            }
        }
        nearest("1ta", 1, 1, 1);
        nearest("5ta", 1, 1, 4);
    }

    private static void nearestOfSeveral() {
        Edge.of("Terms 2", "of several that of the lesser FOOT, then the lesser FEET.");
        nearest("4tata", 0, 1, 0);
        nearest("4tatata", 2, 1, 0);
        nearest("4tatata,4tatata", 0, 3, 0);
        nearest("4ta,4ta,4ta,4ta,4ta", 0, 2, 1);
        // By 1 2 and by 1 3 it is 1, by any other foot more.
        nearest("1tata,1tata,4ta", 1, 2, 1);
        int[][] due = {{1, 1, 1}, {0, 1, 0}, {2, 1, 0}, {0, 2, 0}, {0, 2, 1}, {0, 3, 0}, {0, 3, 1}, {0, 4, 0}, {2, 3, 0},
            {0, 5, 0}, {0, 5, 1}, {2, 4, 0}, {2, 4, 1}, {3, 5, 1}, {2, 5, 0}, {2, 5, 1}, {2, 5, 2}};
        for (int n = 1; n <= due.length; n++) {
            nearest(line(4, n), due[n - 1][0], due[n - 1][1], due[n - 1][2]);
        }
    }

    private static void nearestTo(String lines, int foot, int feet, int least) {
        FeetAndRhymes x = Due.told("q3,5;" + lines);
        Due.is("foot nearest to " + lines, foot, x.whole(3));
        Due.is("feet nearest to " + lines, feet, x.whole(4));
        Due.is("least by the nearest to " + lines, least, x.whole(5));
    }

    private static void nearestOfPoem() {
        Edge.of("Terms 2", "NEAREST of the POEM: that by which all LINES have a SCAN, "
                + "and LEAST of all together is least,");
        // The second line alone is nearest to 2 1, by which the first one has no scan.
        nearestTo("4ta,4ta;4ta,4ta,4ta;", 0, 1, 1);
        // By 0 1 it is 5 and 5, by 1 1 nothing.
        nearestTo("1tata;1tata;", 1, 1, 0);
        // By 0 1 it is 0, 0, 5, by 1 1 5, 5, 0.
        nearestTo("2tata;2tata;1tata;", 0, 1, 5);
        nearestTo("2tatata,2tatata;2tatata,2tatata;2tatata,2tatata;2tatata,2tatata;", 2, 2, 0);
        // One syllable has a scan by 1 1 and 3 1 alone, eight by neither.
        nearestTo("4ta;4tatatata,4tatatata;", Due.NONE, Due.NONE, Due.NONE);
    }

    private static void nearestOfPoemLikewise() {
        Edge.of("Terms 2", "likewise.");
        // By 0 1 it is 5, by 1 1, too.
        nearestTo("1tata;2tata;", 0, 1, 5);
        // By 1 1 it is 1 and 1, by 3 1 it is 2 and 0.
        nearestTo("4ta;4tatata;", 1, 1, 2);
        // By 1 2 it is 1 and 1, by 1 3, too.
        nearestTo("1tata,1tata,4ta;1tata,1tata,4ta;", 1, 2, 2);
        nearestTo("4tata;4tata;4tata;4tata;", 0, 1, 0);
    }

    // ---- promises 17 to 19

    private static void promise17Tells() {
        Edge.of("Promise 17", "By a METRE: LEAST (what = 0;");
        FeetAndRhymes x = Due.told("q3,5;1ta;2tato,4o;");
        Due.is("by another metre than that of the poem", 1, x.scan(1, 0, 1, 0));
        Due.is("another line", 2, x.scan(0, 3, 1, 0));
        for (int feet = 1; feet <= 5; feet++) {
            for (int foot = 0; foot < 4; foot++) {
                Due.is("not refused", 1, x.scan(0, foot, feet, 0) >= 0 || x.scan(0, foot, feet, 0) == Due.NONE ? 1 : 0);
            }
        }
    }

    private static void promise17None() {
        Edge.of("Promise 17", "NONE), WAYS (1; 0: none).");
        FeetAndRhymes x = Due.told("q3,5;1ta;2tato,4o;");
        Due.is("two ways", 2, x.scan(1, 0, 1, 1));
        Due.is("one way", 1, x.scan(0, 3, 1, 1));
        for (int feet = 2; feet <= 5; feet++) {
            for (int foot = 0; foot < 4; foot++) {
                Due.is("least", Due.NONE, x.scan(0, foot, feet, 0));
                Due.is("no way", 0, x.scan(0, foot, feet, 1));
            }
        }
    }

    private static void promise17Bad() {
        Edge.of("Promise 17", "BAD.");
        FeetAndRhymes x = new FeetAndRhymes();
        Due.is("no poem", Due.BAD, x.scan(0, 0, 1, 0));
        Due.tell(x, "q0,1;1ta;2te;");
        Due.is("line 2", Due.BAD, x.scan(2, 0, 1, 0));
        Due.is("foot 4", Due.BAD, x.scan(0, 4, 1, 0));
        Due.is("feet 0", Due.BAD, x.scan(0, 0, 0, 0));
        Due.is("feet 6", Due.BAD, x.scan(0, 0, 6, 0));
        Due.is("what 2", Due.BAD, x.scan(0, 0, 1, 2));
        for (int n : EdgesOfRows.NEVER) {
            Due.is("line " + n, Due.BAD, x.scan(n, 0, 1, 0));
            Due.is("foot " + n, Due.BAD, x.scan(0, n, 1, 0));
            Due.is("feet " + n, Due.BAD, x.scan(0, 0, n, 0));
            Due.is("what " + n, Due.BAD, x.scan(0, 0, 1, n));
        }
    }

    private static void promise18Tells() {
        Edge.of("Promise 18", "NEAREST of a LINE: FOOT (what = 0), FEET (1), LEAST (2);");
        FeetAndRhymes x = Due.told("q0,1;1ta;1tatata,1tatata,1tatata;2tata,2tata;");
        int[][] want = {{1, 1, 1}, {3, 3, 0}, {0, 2, 0}};
        for (int l = 0; l < 3; l++) {
            for (int what = 0; what < 3; what++) {
                Due.is("nearest of line " + l + ", " + what, want[l][what], x.nearest(l, what));
            }
        }
    }

    private static void promise18None() {
        Edge.of("Promise 18", "NONE.");
        for (int n = 18; n <= 20; n++) {
            nearest(line(4, n), Due.NONE, Due.NONE, Due.NONE);
        }
        nearest(line(4, 17), 2, 5, 2);
        // Strong ones too many by each metre that is not too long.
        nearest(line(5, 15) + ",1ta", Due.NONE, Due.NONE, Due.NONE);
        nearest(line(5, 14) + ",1ta", 2, 5, 12);
    }

    private static void promise18Bad() {
        Edge.of("Promise 18", "BAD.");
        FeetAndRhymes x = new FeetAndRhymes();
        Due.is("no poem", Due.BAD, x.nearest(0, 0));
        Due.tell(x, "q0,1;1ta;2te;");
        Due.is("line 2", Due.BAD, x.nearest(2, 0));
        Due.is("what 3", Due.BAD, x.nearest(0, 3));
        for (int n : EdgesOfRows.NEVER) {
            Due.is("line " + n, Due.BAD, x.nearest(n, 0));
            Due.is("what " + n, Due.BAD, x.nearest(0, n));
        }
    }

    private static void promise19Tells() {
        Edge.of("Promise 19", "0 FOOT, 1 FEET of the METRE,");
        for (int foot = 0; foot < 4; foot++) {
            for (int feet = 1; feet <= 5; feet++) {
                FeetAndRhymes x = Due.told("q" + foot + "," + feet + ";1ta;");
                Due.is("foot", foot, x.whole(0));
                Due.is("feet", feet, x.whole(1));
            }
        }
    }

    private static void promise19None() {
        Edge.of("Promise 19", "2 LEAST of all LINES by it, together (NONE: one has no SCAN),");
        FeetAndRhymes x = Due.told("q0,1;1tata;1ta,1ta;2tata;5tata;");
        Due.is("5, 2, 0, 3", 10, x.whole(2));
        x.metre(3, 1);
        Due.is("1, 3, 6, 4", 14, x.whole(2));
        x.metre(2, 1);
        Due.is("none has one", Due.NONE, x.whole(2));
        for (int l = 0; l < 4; l++) {
            StringBuilder lines = new StringBuilder();
            for (int other = 0; other < 4; other++) {
                lines.append(other == l ? "1ta;" : "1tata;");
            }
            FeetAndRhymes y = Due.told("q0,1;" + lines);
            Due.is("line " + l + " has none", Due.NONE, y.whole(2));
        }
        FeetAndRhymes one = Due.told("q1,1;1ta;");
        Due.is("of one line", 1, one.whole(2));
    }

    private static void promise19Nearest() {
        Edge.of("Promise 19", "3 to 5 NEAREST of the POEM: FOOT, FEET, LEAST of all together (NONE),");
        nearestTo("1tatata,1tata;1tatata,1tata;", 3, 2, 2);
        nearestTo("1ta;", 1, 1, 1);
        nearestTo("1ta;4tatatata,4tatatata;", Due.NONE, Due.NONE, Due.NONE);
        nearestTo("1tata;1tata;1tata;4tatatata,4tatatata;", Due.NONE, Due.NONE, Due.NONE);
        nearestTo("4tatatata,4tatatata;1tata;1tata;", Due.NONE, Due.NONE, Due.NONE);
    }

    private static void promise19Scheme() {
        Edge.of("Promise 19", "6 NAME of the SCHEME, 7 how many numbers the SCHEME has.");
        FeetAndRhymes x = Due.told("q0,1;1ta;1te,1ta;1ti;1to,1te,1ti;");
        Due.is("name", 1, x.whole(6));
        Due.is("numbers", 2, x.whole(7));
        x.swap(2, 3);
        Due.is("name of another", 2, x.whole(6));
        Due.is("numbers", 2, x.whole(7));
        FeetAndRhymes one = Due.told("q0,1;1ta;");
        Due.is("no name", 0, one.whole(6));
        Due.is("one number", 1, one.whole(7));
    }

    private static void promise19Bad() {
        Edge.of("Promise 19", "BAD;");
        FeetAndRhymes x = Due.told("q0,1;1ta;");
        Due.is("what 8", Due.BAD, x.whole(8));
        for (int n : EdgesOfRows.NEVER) {
            Due.is("what " + n, Due.BAD, x.whole(n));
        }
    }

    private static void promise19State() {
        Edge.of("Promise 19", "STATE: no POEM (ahead of BAD).");
        FeetAndRhymes x = new FeetAndRhymes();
        for (int what = -1; what <= 8; what++) {
            Due.is("what " + what, Due.STATE, x.whole(what));
        }
        Due.is("what is far off", Due.STATE, x.whole(Integer.MAX_VALUE));
        Due.tell(x, "q0,1");
        Due.is("a fault makes no poem", Due.STATE, x.whole(0));
    }
}
