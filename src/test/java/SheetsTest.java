/** Promises 1 to 5, and what 34 and 35 tell of them. */
public final class SheetsTest {
    private static final int MIN = Integer.MIN_VALUE, MAX = Integer.MAX_VALUE;
    private static final Due due = new Due();

    public static void main(String[] args) {
        newObject();
        sheet();
        set();
        copy();
        drop();
        status();
        due.end();
    }

    private static void newObject() {
        NoteCounter x = new NoteCounter();
        for (int what = 0; what < 10; what++) {
            due.is("count " + what, 0, x.count(what));
        }
        due.is("status", 0, x.status());
        due.is("fault", 0, x.fault());
        due.is("trace", Due.NONE, x.trace(0));
        for (int sheet = 0; sheet < 8; sheet++) {
            due.is("drop of a missing one", Due.NULL, x.drop(sheet));
        }
        for (int a = 0; a < 6; a++) {
            for (int b = 0; b < 6; b++) {
                due.is("far at first", a == b ? 0 : Due.NONE, x.far(a, b));
            }
        }
        due.is("the week at first", 0, x.week(0));
        NoteCounter y = new NoteCounter();
        x.sheet(0, 0, 3);
        x.week(9);
        due.is("another object's sheets", 0, y.count(0));
        due.is("another object's week", 0, y.count(9));
    }

    private static void sheet() {
        NoteCounter x = new NoteCounter();
        due.is("sheet 0, 0", 0, x.sheet(0, 0, 0));
        due.is("sheet 7, 60", 60, x.sheet(7, 2, 60));
        due.is("two there", 2, x.count(0));
        due.is("set of the empty one", Due.PLACE, x.set(0, 0, 1));
        for (int i = 0; i < 60; i++) {
            due.is("set " + i, -1 - i, x.set(7, i, -1 - i));
        }
        due.is("another in its place", 3, x.sheet(7, 1, 3));
        due.is("still two", 2, x.count(0));
        due.is("beyond its new end", Due.PLACE, x.set(7, 3, 1));
        due.is("longer again", 60, x.sheet(7, 2, 60));
        rate(x, "zeros at first");
        due.is("sheet -1", Due.BAD, x.sheet(-1, 0, 1));
        due.is("sheet 8", Due.BAD, x.sheet(8, 0, 1));
        due.is("lane -1", Due.BAD, x.sheet(0, -1, 1));
        due.is("lane 3", Due.BAD, x.sheet(0, 3, 1));
        due.is("n 61", Due.BAD, x.sheet(0, 0, 61));
        due.is("n MAX", Due.BAD, x.sheet(0, 0, MAX));
        due.is("n -1", Due.SIZE, x.sheet(0, 0, -1));
        due.is("n MIN", Due.SIZE, x.sheet(0, 0, MIN));
        due.is("BAD ahead of SIZE", Due.BAD, x.sheet(8, 0, -1));
        due.is("BAD lane ahead of SIZE", Due.BAD, x.sheet(0, 3, -1));
        due.is("what is found changes nothing", 0, x.drop(0));
    }

    /** RATES take only 0 to 100, so they tell that no old ITEM is left. */
    private static void rate(NoteCounter x, String what) {
        for (int i = 0; i <= 52; i++) {
            due.is(what + " " + i, 8, x.rates(0, 7, i));
        }
    }

    private static void set() {
        NoteCounter x = new NoteCounter();
        x.sheet(0, 0, 2);
        x.sheet(1, 1, 2);
        x.sheet(2, 2, 2);
        due.is("byte 127", 127, x.set(0, 1, 127));
        due.is("byte 128", -128, x.set(0, 1, 128));
        due.is("byte 511", -1, x.set(0, 1, 511));
        due.is("byte MIN", 0, x.set(0, 1, MIN));
        due.is("short 32767", 32767, x.set(1, 0, 32767));
        due.is("short 32768", -32768, x.set(1, 0, 32768));
        due.is("short 65537", 1, x.set(1, 0, 65537));
        due.is("int MAX", MAX, x.set(2, 0, MAX));
        due.is("int MIN", MIN, x.set(2, 1, MIN));
        due.is("i -1", Due.PLACE, x.set(0, -1, 0));
        due.is("i 2", Due.PLACE, x.set(0, 2, 0));
        due.is("i MAX", Due.PLACE, x.set(0, MAX, 0));
        due.is("i MIN", Due.PLACE, x.set(0, MIN, 0));
        due.is("missing", Due.NULL, x.set(3, 0, 0));
        due.is("NULL ahead of PLACE", Due.NULL, x.set(3, -1, 0));
        due.is("sheet 8", Due.BAD, x.set(8, 0, 0));
        due.is("sheet -1", Due.BAD, x.set(-1, 0, 0));
    }

    private static void copy() {
        NoteCounter x = new NoteCounter();
        for (int note = 0; note < 4; note++) {
            x.note(note, 1 + note, 0, 0, 0);
        }
        Due.lay(x, 0, 0, 1, 2, 3, 9);
        due.is("onto itself, on", 3, x.copy(0, 0, 0, 1, 3));
        due.is("as they were ahead: 0 0 1 2", 4, x.copy(0, 0, 0, 0, 4));
        due.is("0 told twice", Due.BAD, x.way(0, 0, 0, 2, 1, 0));
        due.is("0 1 2", 0, x.way(0, 0, 1, 3, 1, 0));
        due.is("9 is as it was", Due.BAD, x.way(0, 0, 4, 1, 1, 0));
        Due.lay(x, 0, 9, 0, 1, 2);
        due.is("onto itself, back", 3, x.copy(0, 1, 0, 0, 3));
        due.is("0 1 2 2", 0, x.way(0, 0, 0, 3, 1, 0));
        due.is("2 2", Due.BAD, x.way(0, 0, 2, 2, 1, 0));
        Due.lay(x, 1, 9, 9, 9);
        due.is("to another", 2, x.copy(0, 1, 1, 1, 2));
        due.is("1 2 there", 0, x.way(0, 1, 1, 2, 1, 0));
        due.is("9 there", Due.BAD, x.way(0, 1, 0, 1, 1, 0));
        copyOfNone(x);
        copyRefused(x);
    }

    private static void copyOfNone(NoteCounter x) {
        due.is("none at the ends", 0, x.copy(0, 4, 1, 3, 0));
        due.is("none beyond the first end", Due.PLACE, x.copy(0, 5, 1, 3, 0));
        due.is("none beyond the second end", Due.PLACE, x.copy(0, 4, 1, 4, 0));
    }

    private static void copyRefused(NoteCounter x) {
        x.sheet(2, 1, 4);
        due.is("two lanes", Due.STORE, x.copy(0, 0, 2, 0, 1));
        due.is("two lanes, none", Due.STORE, x.copy(0, 0, 2, 0, 0));
        due.is("STORE ahead of PLACE", Due.STORE, x.copy(0, -1, 2, 0, 1));
        due.is("missing from", Due.NULL, x.copy(3, 0, 0, 0, 1));
        due.is("missing to", Due.NULL, x.copy(0, 0, 3, 0, 1));
        due.is("NULL ahead of PLACE", Due.NULL, x.copy(0, -1, 3, 0, -1));
        due.is("BAD ahead of NULL", Due.BAD, x.copy(3, 0, 8, 0, 1));
        due.is("sheet -1", Due.BAD, x.copy(-1, 0, 0, 0, 1));
        due.is("i below 0", Due.PLACE, x.copy(0, -1, 1, 0, 1));
        due.is("j below 0", Due.PLACE, x.copy(0, 0, 1, -1, 1));
        due.is("n below 0", Due.PLACE, x.copy(0, 0, 1, 0, -1));
        due.is("n MIN", Due.PLACE, x.copy(0, 0, 1, 0, MIN));
        due.is("beyond the first end", Due.PLACE, x.copy(0, 2, 1, 0, 3));
        due.is("beyond the second end", Due.PLACE, x.copy(0, 0, 1, 1, 3));
        due.is("i and n over the int", Due.PLACE, x.copy(0, MAX, 1, 0, MAX));
        due.is("j and n over the int", Due.PLACE, x.copy(0, 0, 1, MAX, MAX));
        due.is("nothing changed", 0, x.way(0, 1, 1, 2, 1, 0));
    }

    private static void drop() {
        NoteCounter x = new NoteCounter();
        x.sheet(5, 1, 17);
        x.sheet(6, 1, 0);
        due.is("drop", 17, x.drop(5));
        due.is("drop again", Due.NULL, x.drop(5));
        due.is("set of it", Due.NULL, x.set(5, 0, 0));
        due.is("one left", 1, x.count(0));
        due.is("drop of an empty one", 0, x.drop(6));
        due.is("none left", 0, x.count(0));
        due.is("drop 8", Due.BAD, x.drop(8));
        due.is("drop -1", Due.BAD, x.drop(-1));
        due.is("there again", 4, x.sheet(5, 0, 4));
        due.is("with its ITEMS", 4, x.drop(5));
    }

    private static void status() {
        NoteCounter x = new NoteCounter();
        x.sheet(0, 0, -1);
        due.is("SIZE", 4, x.status());
        x.sheet(0, 0, 99);
        due.is("BAD leaves it", 4, x.status());
        x.far(0, 1);
        due.is("calls without a SHEET leave it", 4, x.status());
        x.sheet(0, 0, 1);
        due.is("none", 0, x.status());
        x.set(0, 1, 1);
        due.is("PLACE of set", 2, x.status());
        x.set(0, 0, 1);
        due.is("none of set", 0, x.status());
        x.set(1, 0, 1);
        due.is("NULL of set", 1, x.status());
        x.sheet(1, 1, 1);
        x.copy(0, 0, 1, 0, 1);
        due.is("STORE", 5, x.status());
        x.copy(0, 0, 0, 0, 1);
        due.is("none of copy", 0, x.status());
        x.drop(4);
        due.is("NULL of drop", 1, x.status());
        x.drop(1);
        due.is("none of drop", 0, x.status());
        statusOfRatesWayAs(x);
    }

    private static void statusOfRatesWayAs(NoteCounter x) {
        x.note(7, 5, 0, 0, 0);
        x.rates(0, 0, 0);
        due.is("PLACE of rates", 2, x.status());
        x.sheet(1, 1, 8);
        x.as(0, 5);
        due.is("KIND", 3, x.status());
        x.as(0, 6);
        due.is("BAD of as leaves it", 3, x.status());
        x.set(1, 3, 101);
        x.as(0, 5);
        x.rates(0, 1, 0);
        due.is("an ITEM that is BAD leaves it", 3, x.status());
        x.set(1, 3, 100);
        x.as(0, 5);
        x.rates(0, 1, 0);
        due.is("none of rates", 0, x.status());
        x.way(0, 2, 0, 1, 1, 0);
        due.is("NULL of way", 1, x.status());
        x.way(0, 1, 3, 1, 1, 0);
        due.is("no NOTE leaves it", 1, x.status());
        x.way(0, 1, 0, 1, 1, 0);
        due.is("none of way", 0, x.status());
        x.as(0, 4);
        x.as(0, 3);
        due.is("none of as", 0, x.status());
    }
}
