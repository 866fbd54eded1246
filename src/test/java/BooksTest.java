/** Promises 12 to 16. */
public final class BooksTest {
    private static final Due due = new Due();

    public static void main(String[] args) {
        week();
        feed();
        goodTexts();
        faults();
        fullTapes();
        faultStays();
        fortyEntries();
        known();
        knownBySlowPost();
        knownRefused();
        due.end();
    }

    private static void week() {
        NoteCounter x = new NoteCounter();
        due.is("to 3", 0, x.week(3));
        due.is("the same", 3, x.week(3));
        due.is("below", Due.BAD, x.week(2));
        due.is("300", Due.BAD, x.week(300));
        due.is("as it was", 3, x.count(9));
        due.is("to 299", 3, x.week(299));
        due.is("and no more", Due.BAD, x.week(300));
        due.is("299 again", 299, x.week(299));
        due.is("-1", Due.BAD, new NoteCounter().week(-1));
    }

    private static void feed() {
        NoteCounter x = new NoteCounter();
        due.is("n 0", Due.BAD, x.feed(0, 0));
        due.is("n 9", Due.BAD, x.feed(0, 9));
        due.is("n -1", Due.BAD, x.feed(0, -1));
        for (int i = 1; i <= 49; i++) {
            due.is("eight more", 8 * i, x.feed(0x2020202020202020L, 8));
        }
        due.is("seven more", 399, x.feed(0, 7));
        due.is("two are too many", Due.FULL, x.feed(0, 2));
        due.is("none came", 399, x.count(8));
        due.is("the last one", 400, x.feed(0, 1));
        due.is("one is too many", Due.FULL, x.feed(0, 1));
        due.is("BAD ahead of FULL", Due.BAD, x.feed(0, 9));
        due.is("byte 0 is no TOKEN", -1000100 - 392, x.books());
        due.is("empty then", 0, x.count(8));
        due.is("the lowest byte only", 1, x.feed(0x7777777777777720L, 1));
        due.is("a blank", 0, x.books());
    }

    private static NoteCounter twoBanks() {
        NoteCounter x = new NoteCounter();
        x.bank(0, 1, 1);
        x.bank(0, 1, 1);
        return x;
    }

    private static void goodTexts() {
        NoteCounter x = twoBanks();
        due.is("empty", 0, Due.read(x, ""));
        due.is("blank", 0, Due.read(x, " \n \n"));
        due.is("one", 1, Due.read(x, "week 299 off 1 100;"));
        due.is("all edges", 4, Due.read(x, "week 0 stopped 0 0 stopped 1 100 false 0 255;"));
        due.is("without blanks", 5, Due.read(x, "week3off0 1;"));
        due.is("no blank at all between", 7, Due.read(x, "week3off0 1false1 2;\n"));
        due.is("new lines", 8, Due.read(x, "\nweek\n\n3 \n off\n0\n1\n;\n"));
        due.is("noughts ahead", 9, Due.read(x, "week 0003 off 0001 0099;"));
        due.is("two books", 11, Due.read(x, "week 3 off 0 1;week 3 off 0 1;"));
        due.is("counted", 11, x.count(3));
        due.is("no fault", 0, x.fault());
    }

    private static void fault(String text, int number, int place) {
        NoteCounter x = twoBanks();
        due.is(text, -1000100 - place, Due.read(x, text));
        due.is(text + " (number)", number, x.fault());
        due.is(text + " (entries)", 0, x.count(3));
        due.is(text + " (tape)", 0, x.count(8));
    }

    private static void faults() {
        fault("week", 1, 4);
        fault("week  \n", 1, 7);
        fault("off 0 1;", 1, 0);
        fault(";", 1, 0);
        fault("7", 1, 0);
        fault("wee 1 off 0 1;", 1, 0);
        fault("weekk 1 off 0 1;", 1, 0);
        fault("xeek 1 off 0 1;", 1, 0);
        fault("week 1 ofx 0 1;", 1, 7);
        fault("Week 1 off 0 1;", 1, 0);
        fault("week off 0 1;", 1, 5);
        fault("week 300 off 0 1;", 2, 5);
        fault("week 9999 off 0 1;", 2, 5);
        fault("week 12345 off 0 1;", 1, 5);
        fault("week 00000 off 0 1;", 1, 5);
        fault("week 1", 1, 6);
        fault("week 1;", 1, 6);
        fault("week 1 2", 1, 7);
        fault("week 1 week 2", 1, 7);
        fault("week 1 of 0 1;", 1, 7);
        fault("week 1 offf 0 1;", 1, 7);
        fault("week 1 off", 1, 10);
        fault("week 1 off;", 1, 10);
        fault("week 1 off off", 1, 11);
        fault("week 1 off 2 1;", 2, 11);
        fault("week 1 off 0", 1, 12);
        fault("week 1 off 0;", 1, 12);
        fault("week 1 off 0 101;", 2, 13);
        fault("week 1 stopped 0 101;", 2, 17);
        fault("week 1 false 0 256;", 2, 15);
        fault("week 1 off 0 1", 1, 14);
        fault("week 1 off 0 1 1;", 1, 15);
        fault("week 1 off 0 1 on", 1, 15);
        fault("week 1 off 0 1 9999", 1, 15);
        fault("week 1 off 0 1;;", 1, 15);
        fault("week 1 off 0 1 false 0 1 week 2", 1, 25);
        fault("week 1 off 0 -1;", 1, 13);
        fault("week\t1 off 0 1;", 1, 4);
        fault("week 1 off 0 1\r;", 1, 14);
        fault("week 1 off 0 1;week 1 off 5 1;", 2, 26);
        fault("week 1 off 0 1; \u00e9", 1, 16);
        fault("week 1 off 5 101;", 2, 11);
    }

    private static void fullTapes() {
        fault("a".repeat(400), 1, 0);
        fault("7".repeat(400), 1, 0);
        fault("week" + " ".repeat(396), 1, 400);
        fault("week" + "\n".repeat(395) + "1", 1, 400);
        fault("week 1 off 0 1;" + " ".repeat(381) + "week", 1, 400);
        NoteCounter x = twoBanks();
        due.is("400 bytes", 400, Due.type(x, "week 1 off 0 1" + " ".repeat(385) + ";"));
        due.is("read to the last", 1, x.books());
        due.is("400 again", 400, Due.type(x, " ".repeat(400)));
        due.is("nothing in it", 1, x.books());
    }

    private static void faultStays() {
        NoteCounter x = twoBanks();
        Due.read(x, "week 300");
        due.is("2", 2, x.fault());
        due.is("a good one", 1, Due.read(x, "week 1 off 0 1;"));
        due.is("still 2", 2, x.fault());
        Due.read(x, "week");
        due.is("1", 1, x.fault());
        due.is("what was there stays", 1, x.count(3));
        NoteCounter none = new NoteCounter();
        due.is("no bank yet", -1000111, Due.read(none, "week 0 off 0 1;"));
        none.bank(0, 0, 0);
        due.is("then there is", 1, Due.read(none, "week 0 off 0 1;"));
        due.is("the second is not", -1000111, Due.read(none, "week 0 off 1 1;"));
    }

    private static void fortyEntries() {
        NoteCounter x = twoBanks();
        StringBuilder text = new StringBuilder("week 0");
        for (int i = 0; i < 39; i++) {
            text.append(" off 0 1");
        }
        text.append(';');
        due.is("39", 39, Due.read(x, text.toString()));
        due.is("two more", -1000116, Due.read(x, "week 0 off 0 1  off 0 1;"));
        due.is("the 41st", 3, x.fault());
        due.is("none came", 39, x.count(3));
        due.is("one more", 40, Due.read(x, "week 1 off 1 77;"));
        due.is("the last one counts", 77, x.known(0, 1, 1, 0));
        due.is("the 41st alone", -1000107, Due.read(x, "week 0 stopped 9 9;"));
        due.is("is 3 too", 3, x.fault());
        due.is("what cannot stand there", -1000107, Due.read(x, "week 0 ofg 9 9;"));
        due.is("is 1", 1, x.fault());
        due.is("none read", 40, x.books());
        due.is("no false one among 40", 0, x.known(0, 299, 0, 2));
        due.is("none stopped among 40", Due.NONE, x.known(0, 299, 0, 1));
        x.note(0, 1, 1, 2, 0);
        due.is("nothing to tell it from among 40", 2, x.looks(0, 0, 299));
    }

    private static void known() {
        NoteCounter x = twoBanks();
        Due.read(x, "week 5 off 0 10 off 1 11 off 0 12; week 3 off 0 30; week 5 off 0 13;");
        due.is("before", 0, x.known(0, 2, 0, 0));
        NoteCounter first = twoBanks();
        Due.read(first, "week 0 false 1 9;");
        due.is("the first entry of all", 1, first.known(0, 0, 1, 2));
        due.is("week 3", 30, x.known(0, 3, 0, 0));
        due.is("week 4", 30, x.known(0, 4, 0, 0));
        due.is("week 5: told last", 13, x.known(0, 5, 0, 0));
        due.is("the other bank", 11, x.known(0, 5, 1, 0));
        Due.read(x, "week 4 off 0 50;");
        due.is("told later of an earlier week", 13, x.known(0, 299, 0, 0));
        due.is("in that week", 50, x.known(0, 4, 0, 0));
        due.is("not stopped", Due.NONE, x.known(0, 299, 0, 1));
        Due.read(x, "week 6 stopped 0 0; week 7 stopped 0 40 stopped 1 3;");
        due.is("stopped at 0", 0, x.known(0, 6, 0, 1));
        due.is("stopped at 40", 40, x.known(0, 7, 0, 1));
        due.is("the other one stopped", 3, x.known(0, 7, 1, 1));
        due.is("off still told", 13, x.known(0, 7, 0, 0));
        due.is("no false ones", 0, x.known(0, 7, 0, 2));
        Due.read(x, "week 0 false 0 0; week 8 false 0 3 false 1 3;");
        due.is("one false", 1, x.known(0, 7, 0, 2));
        due.is("two false", 2, x.known(0, 8, 0, 2));
        due.is("one of the other", 1, x.known(0, 8, 1, 2));
    }

    private static void knownBySlowPost() {
        NoteCounter x = twoBanks();
        Due.read(x, "week 0 off 0 9; week 10 off 0 20;");
        due.is("no way: nothing", 0, x.known(4, 299, 0, 0));
        x.road(0, 4, 99);
        due.is("99 miles: the same week", 20, x.known(4, 10, 0, 0));
        x.road(0, 4, 100);
        due.is("100 miles: not yet", 9, x.known(4, 10, 0, 0));
        due.is("a week later", 20, x.known(4, 11, 0, 0));
        due.is("not even the first", 0, x.known(4, 0, 0, 0));
        x.road(4, 5, 450);
        due.is("550 miles", 9, x.known(5, 14, 0, 0));
        due.is("550 miles, a week on", 20, x.known(5, 15, 0, 0));
    }

    private static void knownRefused() {
        NoteCounter x = twoBanks();
        due.is("town 6", Due.BAD, x.known(6, 0, 0, 0));
        due.is("town -1", Due.BAD, x.known(-1, 0, 0, 0));
        due.is("week 300", Due.BAD, x.known(0, 300, 0, 0));
        due.is("week -1", Due.BAD, x.known(0, -1, 0, 0));
        due.is("bank 2", Due.BAD, x.known(0, 0, 2, 0));
        due.is("bank -1", Due.BAD, x.known(0, 0, -1, 0));
        due.is("what 3", Due.BAD, x.known(0, 0, 0, 3));
        due.is("what -1", Due.BAD, x.known(0, 0, 0, -1));
    }
}
