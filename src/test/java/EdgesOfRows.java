/** Rows: what the terms say of them, and promises 2 to 5. */
final class EdgesOfRows {
    /** Numbers that are no row, no lane, no word and no line. */
    static final int[] NEVER = {Integer.MIN_VALUE, -1000000, -1, 20, 255, Integer.MAX_VALUE};

    private EdgesOfRows() { }

    static void all() {
        missingAtFirst();
        lanes();
        zeroToForty();
        noughtAtFirst();
        promise2Made();
        promise2Row();
        promise2Lane();
        promise2Above();
        promise2Size();
        promise3Bits();
        promise3Row();
        promise3Null();
        promise3Place();
        promise4Comes();
        promise4Ahead();
        promise4Rows();
        promise4Null();
        promise4Store();
        promise4Below();
        promise4Beyond();
        promise5Drops();
        promise5Bad();
        promise5Null();
    }

    private static void missingAtFirst() {
        Edge.of("Terms 1", "ROWS 0 .. 7 are missing (at first)");
        FeetAndRhymes x = new FeetAndRhymes();
        Due.is("none is there", 0, x.count(0));
        for (int r = 0; r < 8; r++) {
            Due.is("set of row " + r, Due.NULL, x.set(r, 0, 0));
            Due.is("drop of row " + r, Due.NULL, x.drop(r));
            Due.is("copy of row " + r, Due.NULL, x.copy(r, 0, r, 0, 0));
        }
        for (int r = 0; r < 8; r++) {
            Due.is("row " + r, 1, x.row(r, 0, 1));
            Due.is("rows there", r + 1, x.count(0));
        }
        Due.is("row 8", Due.BAD, x.row(8, 0, 1));
        Due.is("row -1", Due.BAD, x.row(-1, 0, 1));
    }

    private static void lanes() {
        Edge.of("Terms 1", "or have a LANE (0 bytes, 1 shorts, 2 ints)");
        FeetAndRhymes x = new FeetAndRhymes();
        for (int lane = 0; lane < 3; lane++) {
            Due.is("row of lane " + lane, 1, x.row(lane, lane, 1));
        }
        Due.is("a byte", -1, x.set(0, 0, 0x12FF));
        Due.is("a short", 0x12FF, x.set(1, 0, 0x712FF));
        Due.is("an int", 0x712FF, x.set(2, 0, 0x712FF));
    }

    private static void zeroToForty() {
        Edge.of("Terms 1", "and 0 to 40 ITEMS");
        FeetAndRhymes x = new FeetAndRhymes();
        for (int n = 0; n <= 40; n++) {
            Due.is("row of " + n, n, x.row(0, 2, n));
            Due.is("behind its end", Due.PLACE, x.set(0, n, 1));
            Due.is("at its end", n == 0 ? Due.PLACE : 1, x.set(0, n - 1, 1));
            Due.is("how many it had", n, x.drop(0));
        }
        Due.is("row of 41", Due.BAD, x.row(0, 2, 41));
    }

    /** Tells by who() whether an item is 0, as the line costs 0 by one foot and has no scan by more. */
    private static void isNought(FeetAndRhymes x, int row, int i) {
        Due.is("item " + i + " of row " + row + " is 0", 2, x.who(0, 0, row, i));
    }

    private static void noughtAtFirst() {
        Edge.of("Terms 1", "0 at first.");
        for (int lane = 0; lane < 3; lane++) {
            FeetAndRhymes x = Due.told("q0,1;2abut;");
            x.row(3, lane, 40);
            for (int i = 0; i < 40; i++) {
                isNought(x, 3, i);
                x.set(3, i, 9);
            }
            x.row(3, lane, 40);
            for (int i = 0; i < 40; i++) {
                isNought(x, 3, i);
                x.set(3, i, 9);
            }
            x.drop(3);
            x.row(3, lane, 1);
            x.row(3, lane, 40);
            for (int i = 0; i < 40; i++) {
                isNought(x, 3, i);
            }
        }
    }

    private static void promise2Made() {
        Edge.of("Promise 2", "A ROW of a LANE with n ITEMS, in place of what is there: n.");
        FeetAndRhymes x = new FeetAndRhymes();
        Due.is("forty ints", 40, x.row(0, 2, 40));
        Due.is("the last of them", 300, x.set(0, 39, 300));
        Due.is("one byte in their place", 1, x.row(0, 0, 1));
        Due.is("one row", 1, x.count(0));
        Due.is("no second item", Due.PLACE, x.set(0, 1, 0));
        Due.is("it is a byte", 44, x.set(0, 0, 300));
        Due.is("none in its place", 0, x.row(0, 1, 0));
        Due.is("a row of none is not missing", 1, x.count(0));
        Due.is("no first item", Due.PLACE, x.set(0, 0, 0));
        Due.is("status 2", 2, x.status());
        Due.is("again", 40, x.row(0, 1, 40));
        Due.is("status 0", 0, x.status());
    }

    private static void promise2Row() {
        Edge.of("Promise 2", "BAD: ROW,");
        FeetAndRhymes x = new FeetAndRhymes();
        Due.is("row 8", Due.BAD, x.row(8, 0, 1));
        for (int r : NEVER) {
            Due.is("row " + r, Due.BAD, x.row(r, 0, 1));
        }
        Due.is("none is there", 0, x.count(0));
        Due.is("row 0", 1, x.row(0, 0, 1));
        Due.is("row 7", 1, x.row(7, 0, 1));
    }

    private static void promise2Lane() {
        Edge.of("Promise 2", "LANE, n");
        FeetAndRhymes x = new FeetAndRhymes();
        Due.is("lane 3", Due.BAD, x.row(0, 3, 1));
        for (int lane : NEVER) {
            Due.is("lane " + lane, Due.BAD, x.row(0, lane, 1));
        }
        Due.is("none is there", 0, x.count(0));
        Due.is("lane 0", 1, x.row(0, 0, 1));
        Due.is("lane 2", 1, x.row(0, 2, 1));
    }

    private static void promise2Above() {
        Edge.of("Promise 2", "n above 40;");
        FeetAndRhymes x = new FeetAndRhymes();
        Due.is("41", Due.BAD, x.row(0, 0, 41));
        Due.is("most of all", Due.BAD, x.row(0, 0, Integer.MAX_VALUE));
        Due.is("none is there", 0, x.count(0));
        Due.is("40", 40, x.row(0, 0, 40));
    }

    private static void promise2Size() {
        Edge.of("Promise 2", "SIZE.");
        FeetAndRhymes x = new FeetAndRhymes();
        x.row(0, 0, 3);
        Due.is("-1", Due.SIZE, x.row(0, 2, -1));
        Due.is("least of all", Due.SIZE, x.row(1, 2, Integer.MIN_VALUE));
        Due.is("status 4", 4, x.status());
        Due.is("what is there stays", -1, x.set(0, 2, 255));
        Due.is("nothing else is there", 1, x.count(0));
        Due.is("0", 0, x.row(0, 2, 0));
    }

    private static void promise3Bits() {
        Edge.of("Promise 3", "ITEM i becomes v, its lowest bits, as many as the LANE has "
                + "(read with their sign): what it is then.");
        FeetAndRhymes x = Due.told("q0,1;2abut;");
        int[] given = {127, 128, 255, 256, 257, -1, -128, -129, -256, 32767, 32768, 65535, 65536, -32768, -32769,
            Integer.MAX_VALUE, Integer.MIN_VALUE};
        int[] bytes = {127, -128, -1, 0, 1, -1, -128, 127, 0, -1, 0, -1, 0, 0, -1, -1, 0};
        int[] shorts = {127, 128, 255, 256, 257, -1, -128, -129, -256, 32767, -32768, -1, 0, -32768, 32767, -1, 0};
        for (int lane = 0; lane < 3; lane++) {
            x.row(lane, lane, 40);
            for (int g = 0; g < given.length; g++) {
                int want = lane == 0 ? bytes[g] : lane == 1 ? shorts[g] : given[g];
                Due.is(given[g] + " in lane " + lane, want, x.set(lane, 39, given[g]));
                // Of the line no foot but the first has a scan, which a row tells by -1.
                Due.is("and it is that", want == 0 ? 2 : want == -1 ? 60 : 0, x.who(0, 0, lane, 39));
            }
            Due.is("the one ahead of it stays", 2, x.who(0, 0, lane, 38));
        }
    }

    private static void promise3Row() {
        Edge.of("Promise 3", "BAD: ROW;");
        FeetAndRhymes x = new FeetAndRhymes();
        Due.is("row 8", Due.BAD, x.set(8, 0, 1));
        for (int r : NEVER) {
            Due.is("row " + r, Due.BAD, x.set(r, 0, 1));
        }
    }

    private static void promise3Null() {
        Edge.of("Promise 3", "NULL;");
        FeetAndRhymes x = new FeetAndRhymes();
        Due.is("never there", Due.NULL, x.set(7, 0, 1));
        Due.is("status 1", 1, x.status());
        x.row(7, 0, 1);
        x.drop(7);
        Due.is("no longer there", Due.NULL, x.set(7, 0, 1));
    }

    private static void promise3Place() {
        Edge.of("Promise 3", "PLACE.");
        FeetAndRhymes x = new FeetAndRhymes();
        x.row(0, 0, 3);
        Due.is("3 of 3", Due.PLACE, x.set(0, 3, 1));
        for (int i : NEVER) {
            Due.is("place " + i, Due.PLACE, x.set(0, i, 1));
        }
        Due.is("status 2", 2, x.status());
        Due.is("2 of 3", 1, x.set(0, 2, 1));
        Due.is("0 of 3", 1, x.set(0, 0, 1));
        Due.is("status 0", 0, x.status());
        x.row(0, 0, 0);
        Due.is("0 of none", Due.PLACE, x.set(0, 0, 1));
    }

    /** A poem into which row 0 is put as a word, so that its letters can be seen. */
    private static FeetAndRhymes withLetters(String letters) {
        FeetAndRhymes x = Due.told("q0,1;1a;");
        Due.spell(x, 0, letters);
        return x;
    }

    private static void letters(FeetAndRhymes x, int row, String want) {
        Due.is("read by a word", 0, x.put(0, 0, 1, row, want.length()));
        Due.same("items of row " + row, "1" + want, Due.spelled(x, 0));
        Due.is("out again", 0, x.undo());
    }

    private static void promise4Comes() {
        Edge.of("Promise 4", "n ITEMS of a from i on come to b from j on");
        FeetAndRhymes x = withLetters("abcdefgh");
        Due.spell(x, 1, "oooo");
        Due.is("two", 2, x.copy(0, 6, 1, 1, 2));
        letters(x, 1, "ogho");
        letters(x, 0, "abcdefgh");
        Due.is("all of it", 4, x.copy(1, 0, 0, 4, 4));
        letters(x, 0, "abcdogho");
        Due.is("none", 0, x.copy(1, 0, 0, 0, 0));
        letters(x, 0, "abcdogho");
        x.row(2, 0, 40);
        x.row(3, 0, 40);
        x.set(2, 39, 5);
        Due.is("forty", 40, x.copy(2, 0, 3, 0, 40));
        Due.is("the last of forty to the front", 1, x.copy(3, 39, 0, 0, 1));
        letters(x, 0, "fbcdogho");
    }

    private static void promise4Ahead() {
        Edge.of("Promise 4", "as they were ahead: n.");
        FeetAndRhymes x = withLetters("abcdefgh");
        Due.is("over itself, up by one", 7, x.copy(0, 0, 0, 1, 7));
        letters(x, 0, "aabcdefg");
        Due.is("over itself, down by one", 7, x.copy(0, 1, 0, 0, 7));
        letters(x, 0, "abcdefgg");
        Due.is("over itself, up by three", 5, x.copy(0, 0, 0, 3, 5));
        letters(x, 0, "abcabcde");
        Due.is("over itself in the same place", 8, x.copy(0, 0, 0, 0, 8));
        letters(x, 0, "abcabcde");
    }

    private static void promise4Rows() {
        Edge.of("Promise 4", "BAD: ROWS;");
        FeetAndRhymes x = new FeetAndRhymes();
        x.row(0, 0, 1);
        Due.is("from row 8", Due.BAD, x.copy(8, 0, 0, 0, 1));
        Due.is("to row 8", Due.BAD, x.copy(0, 0, 8, 0, 1));
        for (int r : NEVER) {
            Due.is("from row " + r, Due.BAD, x.copy(r, 0, 0, 0, 1));
            Due.is("to row " + r, Due.BAD, x.copy(0, 0, r, 0, 1));
        }
    }

    private static void promise4Null() {
        Edge.of("Promise 4", "NULL;");
        FeetAndRhymes x = new FeetAndRhymes();
        x.row(0, 0, 1);
        Due.is("from one that is missing", Due.NULL, x.copy(7, 0, 0, 0, 1));
        Due.is("status 1", 1, x.status());
        Due.is("to one that is missing", Due.NULL, x.copy(0, 0, 7, 0, 1));
        Due.is("from one that is missing to itself", Due.NULL, x.copy(7, 0, 7, 0, 0));
    }

    private static void promise4Store() {
        Edge.of("Promise 4", "STORE;");
        FeetAndRhymes x = new FeetAndRhymes();
        x.row(0, 0, 1);
        x.row(1, 1, 1);
        x.row(2, 2, 1);
        Due.is("bytes to shorts", Due.STORE, x.copy(0, 0, 1, 0, 1));
        Due.is("status 5", 5, x.status());
        Due.is("shorts to ints", Due.STORE, x.copy(1, 0, 2, 0, 1));
        Due.is("ints to bytes", Due.STORE, x.copy(2, 0, 0, 0, 1));
        Due.is("none of them", Due.STORE, x.copy(0, 0, 2, 0, 0));
        Due.is("beyond an end, too", Due.STORE, x.copy(0, 0, 2, 0, 2));
        Due.is("of one lane", 1, x.copy(2, 0, 2, 0, 1));
        Due.is("status 0", 0, x.status());
    }

    private static void promise4Below() {
        Edge.of("Promise 4", "PLACE (i, j, n below 0,");
        FeetAndRhymes x = new FeetAndRhymes();
        x.row(0, 0, 4);
        x.row(1, 0, 4);
        for (int below : new int[] {-1, -40, Integer.MIN_VALUE}) {
            Due.is("i " + below, Due.PLACE, x.copy(0, below, 1, 0, 0));
            Due.is("j " + below, Due.PLACE, x.copy(0, 0, 1, below, 0));
            Due.is("n " + below, Due.PLACE, x.copy(0, 0, 1, 0, below));
            Due.is("n " + below + " at the ends", Due.PLACE, x.copy(0, 4, 1, 4, below));
        }
        Due.is("i -1 of one", Due.PLACE, x.copy(0, -1, 1, 0, 1));
        Due.is("j -1 of one", Due.PLACE, x.copy(0, 0, 1, -1, 1));
        Due.is("status 2", 2, x.status());
        Due.is("none of them", 0, x.copy(0, 0, 1, 0, 0));
        Due.is("status 0", 0, x.status());
    }

    private static void promise4Beyond() {
        Edge.of("Promise 4", "or beyond an end).");
        FeetAndRhymes x = new FeetAndRhymes();
        x.row(0, 0, 4);
        x.row(1, 0, 6);
        Due.is("of a, by one", Due.PLACE, x.copy(0, 0, 1, 0, 5));
        Due.is("of b, by one", Due.PLACE, x.copy(1, 0, 0, 0, 5));
        Due.is("of a, from its last on", Due.PLACE, x.copy(0, 3, 1, 0, 2));
        Due.is("of b, from its last on", Due.PLACE, x.copy(0, 0, 1, 5, 2));
        Due.is("none, but behind the end of a", Due.PLACE, x.copy(0, 5, 1, 0, 0));
        Due.is("none, but behind the end of b", Due.PLACE, x.copy(0, 0, 1, 7, 0));
        Due.is("so far that it would wrap around", Due.PLACE, x.copy(0, 1, 1, 0, Integer.MAX_VALUE));
        Due.is("from so far", Due.PLACE, x.copy(0, Integer.MAX_VALUE, 1, 0, 1));
        Due.is("to so far", Due.PLACE, x.copy(0, 0, 1, Integer.MAX_VALUE, 1));
        Due.is("status 2", 2, x.status());
        Due.is("none at both ends", 0, x.copy(0, 4, 1, 6, 0));
        Due.is("the last to the last", 1, x.copy(0, 3, 1, 5, 1));
        Due.is("all", 4, x.copy(0, 0, 1, 2, 4));
        Due.is("status 0", 0, x.status());
    }

    private static void promise5Drops() {
        Edge.of("Promise 5", "A ROW is missing from now on: how many ITEMS it had.");
        FeetAndRhymes x = new FeetAndRhymes();
        x.row(0, 0, 0);
        x.row(7, 2, 40);
        Due.is("none", 0, x.drop(0));
        Due.is("one row is left", 1, x.count(0));
        Due.is("forty", 40, x.drop(7));
        Due.is("no row is left", 0, x.count(0));
        Due.is("missing", Due.NULL, x.set(7, 0, 0));
        Due.is("missing", Due.NULL, x.set(0, 0, 0));
    }

    private static void promise5Bad() {
        Edge.of("Promise 5", "BAD;");
        FeetAndRhymes x = new FeetAndRhymes();
        Due.is("row 8", Due.BAD, x.drop(8));
        for (int r : NEVER) {
            Due.is("row " + r, Due.BAD, x.drop(r));
        }
        Due.is("status 0", 0, x.status());
    }

    private static void promise5Null() {
        Edge.of("Promise 5", "NULL.");
        FeetAndRhymes x = new FeetAndRhymes();
        Due.is("never there", Due.NULL, x.drop(0));
        Due.is("status 1", 1, x.status());
        x.row(0, 0, 5);
        Due.is("there", 5, x.drop(0));
        Due.is("status 0", 0, x.status());
        Due.is("no longer there", Due.NULL, x.drop(0));
    }
}
