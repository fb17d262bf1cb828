/** Promises 2 to 5: rows; and of promise 33 what they leave. */
public final class RowsTest {
    public static void main(String[] args) {
        promise2();
        promise3();
        promise4();
        promise5();
        Due.end();
    }

    private static void promise2() {
        FeetAndRhymes x = new FeetAndRhymes();
        Due.is("row of 40", 40, x.row(0, 2, 40));
        Due.is("row of none", 0, x.row(7, 0, 0));
        Due.is("two rows", 2, x.count(0));
        Due.is("no row -1", Due.BAD, x.row(-1, 0, 1));
        Due.is("no row 8", Due.BAD, x.row(8, 0, 1));
        Due.is("no lane -1", Due.BAD, x.row(0, -1, 1));
        Due.is("no lane 3", Due.BAD, x.row(0, 3, 1));
        Due.is("41 items", Due.BAD, x.row(0, 0, 41));
        Due.is("BAD leaves the status", 0, x.status());
        Due.is("fewer than none", Due.SIZE, x.row(0, 0, -1));
        Due.is("status SIZE", 4, x.status());
        Due.is("least of all", Due.SIZE, x.row(0, 0, Integer.MIN_VALUE));
        Due.is("BAD goes ahead of SIZE", Due.BAD, x.row(8, 0, -1));
        Due.is("status stays", 4, x.status());
        Due.is("the old row is there yet", 9, x.set(0, 39, 9));
        Due.is("status 0", 0, x.status());
        Due.is("in place of what is there", 3, x.row(0, 0, 3));
        Due.is("shorter now", Due.PLACE, x.set(0, 3, 1));
        Due.is("longer again", 40, x.row(0, 2, 40));
        Due.is("copy of what is 0 at first", 1, x.copy(0, 39, 0, 0, 1));
        FeetAndRhymes y = Due.told("q0,1;4a,1ta;");
        Due.is("items", 1, y.row(1, 0, 1));
        Due.is("one is 1", 1, y.set(1, 0, 1));
        Due.is("anew", 1, y.row(1, 0, 1));
        Due.is("0 at first: a is a letter", 0, y.put(0, 0, 1, 1, 1));
    }

    private static void promise3() {
        FeetAndRhymes x = new FeetAndRhymes();
        Due.is("no row -1", Due.BAD, x.set(-1, 0, 0));
        Due.is("no row 8", Due.BAD, x.set(8, 0, 0));
        Due.is("missing", Due.NULL, x.set(0, 0, 0));
        Due.is("missing goes ahead of the place", Due.NULL, x.set(0, -1, 0));
        Due.is("status NULL", 1, x.status());
        for (int lane = 0; lane < 3; lane++) {
            x.row(lane, lane, 2);
        }
        Due.is("byte", 127, x.set(0, 0, 127));
        Due.is("byte 128", -128, x.set(0, 0, 128));
        Due.is("byte 256", 0, x.set(0, 1, 256));
        Due.is("byte -129", 127, x.set(0, 1, -129));
        Due.is("short", 32767, x.set(1, 0, 32767));
        Due.is("short 32768", -32768, x.set(1, 1, 32768));
        Due.is("short 65535", -1, x.set(1, 1, 65535));
        Due.is("int", Integer.MIN_VALUE, x.set(2, 1, Integer.MIN_VALUE));
        Due.is("int 65536", 65536, x.set(2, 1, 65536));
        Due.is("place -1", Due.PLACE, x.set(2, -1, 0));
        Due.is("status PLACE", 2, x.status());
        Due.is("place 2 of 2", Due.PLACE, x.set(2, 2, 0));
        Due.is("a place far off", Due.PLACE, x.set(2, Integer.MAX_VALUE, 0));
        Due.is("a good one", 5, x.set(2, 0, 5));
        Due.is("status 0", 0, x.status());
    }

    private static void promise4() {
        FeetAndRhymes x = Due.told("q0,1;1a;");
        Due.is("no row", Due.BAD, x.copy(8, 0, 0, 0, 0));
        Due.is("no other row", Due.BAD, x.copy(0, 0, -1, 0, 0));
        x.row(0, 0, 6);
        x.row(1, 1, 6);
        x.row(2, 0, 2);
        Due.is("missing from", Due.NULL, x.copy(3, 0, 0, 0, 1));
        Due.is("missing to", Due.NULL, x.copy(0, 0, 3, 0, 1));
        Due.is("two lanes", Due.STORE, x.copy(0, 0, 1, 0, 1));
        Due.is("status STORE", 5, x.status());
        Due.is("STORE ahead of PLACE", Due.STORE, x.copy(0, -1, 1, 0, 1));
        Due.is("NULL ahead of STORE and PLACE", Due.NULL, x.copy(0, -1, 4, 0, 1));
        Due.is("i below 0", Due.PLACE, x.copy(0, -1, 2, 0, 1));
        Due.is("j below 0", Due.PLACE, x.copy(0, 0, 2, -1, 1));
        Due.is("n below 0", Due.PLACE, x.copy(0, 0, 2, 0, -1));
        Due.is("beyond the end of a", Due.PLACE, x.copy(2, 1, 0, 0, 2));
        Due.is("beyond the end of b", Due.PLACE, x.copy(0, 0, 2, 1, 2));
        Due.is("far beyond", Due.PLACE, x.copy(0, Integer.MAX_VALUE, 0, 0, Integer.MAX_VALUE));
        Due.is("none at the ends", 0, x.copy(0, 6, 2, 2, 0));
        Due.is("none behind an end", Due.PLACE, x.copy(0, 7, 2, 2, 0));
        Due.is("status PLACE", 2, x.status());
        Due.is("a good one", 1, x.copy(0, 0, 2, 0, 1));
        Due.is("status 0", 0, x.status());
        for (int i = 0; i < 6; i++) {
            x.set(0, i, i);
        }
        Due.is("over itself, upwards", 5, x.copy(0, 0, 0, 1, 5));
        Due.is("status 0", 0, x.status());
        same(x, "aabcde");
        Due.is("over itself, downwards", 4, x.copy(0, 2, 0, 0, 4));
        same(x, "bcdede");
        Due.is("to another", 2, x.copy(0, 4, 2, 0, 2));
        Due.is("back", 2, x.copy(2, 0, 0, 0, 2));
        same(x, "dedede");
    }

    /** Row 0 is read by putting its letters in as a word. */
    private static void same(FeetAndRhymes x, String letters) {
        Due.is("read by a word", 0, x.put(0, 0, 1, 0, letters.length()));
        Due.same("items", "1" + letters, Due.spelled(x, 0));
        Due.is("out again", 0, x.undo());
    }

    private static void promise5() {
        FeetAndRhymes x = new FeetAndRhymes();
        Due.is("no row -1", Due.BAD, x.drop(-1));
        Due.is("no row 8", Due.BAD, x.drop(8));
        Due.is("missing", Due.NULL, x.drop(7));
        Due.is("status NULL", 1, x.status());
        x.row(7, 1, 13);
        Due.is("13 items", 13, x.drop(7));
        Due.is("status 0", 0, x.status());
        Due.is("none there", 0, x.count(0));
        Due.is("missing again", Due.NULL, x.drop(7));
        x.row(7, 1, 0);
        Due.is("no items", 0, x.drop(7));
    }
}
