/** Boundary cases of promises 17 to 21. */
final class NoteEdges {
    private final Edge edge;

    NoteEdges(Edge edge) {
        this.edge = edge;
    }

    void run() {
        asTold();
        numbers();
        fullOfNotes();
        comesInTheWeek();
        whereItIs();
        toldRefused();
        falseNotes();
        trueByPlates();
        wornMarks();
        ghosts();
        looksRefused();
        worthByMiles();
        worthByOff();
        worthOfStopped();
        worthOfFalse();
        worthRefused();
        hands();
        twelveHands();
        handsRefused();
    }

    private static NoteCounter one() {
        NoteCounter x = new NoteCounter();
        x.bank(0, 100, 0);
        x.note(0, 10, 0, 0, 0);
        return x;
    }

    private static NoteCounter notes(int n) {
        NoteCounter x = new NoteCounter();
        for (int i = 0; i < n; i++) {
            x.note(i % 8, 1 + i, i, 0, i % 8);
        }
        return x;
    }

    private static int tells(int bank, int sum, int marks, int worn, int trader, int what) {
        NoteCounter x = new NoteCounter();
        x.note(bank, sum, marks, worn, trader);
        return x.told(0, what);
    }

    private void asTold() {
        edge.promise(17, "NOTES 0 .. 23 (24 at most), as they are told: a BANK 0 to 7 (GHOST: there is none such, as yet), a sum (1 to 100), "
            + "marks (0 to 255), WORN marks (0 to 255).");
        edge.range("BANK", 0, 7, 0, v -> new NoteCounter().note(v, 1, 0, 0, 0));
        edge.range("sum", 1, 100, 0, v -> new NoteCounter().note(0, v, 0, 0, 0));
        edge.range("marks", 0, 255, 0, v -> new NoteCounter().note(0, 1, v, 0, 0));
        edge.range("WORN", 0, 255, 0, v -> new NoteCounter().note(0, 1, 0, v, 0));
        edge.range("TRADER", 0, 7, 0, v -> new NoteCounter().note(0, 1, 0, 0, v));
        edge.taken("BANK as told", 0, 7, v -> tells(v, 1, 0, 0, 0, 0), v -> v);
        edge.taken("sum as told", 1, 100, v -> tells(0, v, 0, 0, 0, 1), v -> v);
        edge.taken("marks as told", 0, 255, v -> tells(0, 1, v, 0, 0, 2), v -> v);
        edge.taken("WORN as told", 0, 255, v -> tells(0, 1, 0, v, 0, 3), v -> v);
        edge.taken("TRADER as told", 0, 7, v -> tells(0, 1, 0, 0, v, 4), v -> v);
        NoteCounter x = one();
        edge.is("of a BANK that there is", 0, x.kind(0));
        x.note(1, 1, 0, 0, 0);
        edge.is("GHOST, as yet", 3, x.kind(1));
        x.bank(0, 0, 0);
        edge.is("GHOST no more", 0, x.kind(1));
    }

    private void numbers() {
        edge.promise(17, "Numbers go from 0 on.");
        NoteCounter x = new NoteCounter();
        for (int i = 0; i < 24; i++) {
            edge.is("one that is refused takes no number", Due.BAD, x.note(0, 0, 0, 0, 0));
            edge.is("the next NOTE", i, x.note(0, 1, 0, 0, 0));
        }
    }

    private void fullOfNotes() {
        edge.promise(17, "A NOTE comes to a TRADER in THE WEEK: its number. BAD: BANK 0 to 7, sum, marks, worn, TRADER; FULL: 24.");
        edge.is("the 24th", 23, notes(23).note(0, 1, 0, 0, 0));
        NoteCounter x = notes(24);
        edge.is("the 25th", Due.FULL, x.note(0, 1, 0, 0, 0));
        edge.is("again", Due.FULL, x.note(7, 100, 255, 255, 7));
        edge.is("BANK ahead of FULL", Due.BAD, x.note(8, 1, 0, 0, 0));
        edge.is("sum 0 ahead of FULL", Due.BAD, x.note(0, 0, 0, 0, 0));
        edge.is("sum 101 ahead of FULL", Due.BAD, x.note(0, 101, 0, 0, 0));
        edge.is("marks ahead of FULL", Due.BAD, x.note(0, 1, 256, 0, 0));
        edge.is("WORN ahead of FULL", Due.BAD, x.note(0, 1, 0, -1, 0));
        edge.is("TRADER ahead of FULL", Due.BAD, x.note(0, 1, 0, 0, 8));
        edge.is("24 still", 24, x.count(4));
        edge.is("no 25th", Due.BAD, x.told(24, 0));
        edge.is("the last is as it was", 24, x.told(23, 1));
        NoteCounter gone = new NoteCounter();
        gone.bank(0, 99999, 0);
        for (int i = 0; i < 24; i++) {
            gone.note(0, 1, i % 2, 0, 0);
            gone.home(i);
        }
        edge.is("those at a BANK and LOST ones count, too", Due.FULL, gone.note(0, 1, 0, 0, 0));
    }

    private void comesInTheWeek() {
        edge.promise(17, "A NOTE comes to a TRADER in THE WEEK: its number. BAD: BANK 0 to 7, sum, marks, worn, TRADER; FULL: 24.");
        for (int week : new int[] {0, 299}) {
            NoteCounter x = new NoteCounter();
            x.week(week);
            x.note(0, 1, 0, 0, 7);
            edge.is("one HAND", 1, x.hands(0, -1, 0));
            edge.is("who", 7, x.hands(0, 0, 0));
            edge.is("from " + week + " on", week, x.hands(0, 0, 1));
        }
    }

    private void whereItIs() {
        edge.promise(18, "A NOTE is with a TRADER, at its BANK, or LOST.");
        NoteCounter x = new NoteCounter();
        x.bank(0, 100, 9);
        x.note(0, 5, 9, 0, 7);
        x.note(0, 5, 9, 0, 0);
        x.note(0, 5, 8, 0, 0);
        x.note(0, 5, 9, 0, 0);
        x.note(0, 5, 9, 0, 0);
        x.home(1);
        x.home(2);
        x.cut(3, 1);
        x.cut(4, 1);
        x.half(4, 0, Due.NONE);
        int[][] want = {{7, 0, 0}, {Due.NONE, 1, 0}, {Due.NONE, 0, 1}, {Due.NONE, 0, 0}, {Due.NONE, 0, 0}};
        for (int note = 0; note < want.length; note++) {
            for (int what = 4; what < 7; what++) {
                edge.is("NOTE " + note + ", what " + what, want[note][what - 4], x.told(note, what));
            }
        }
        x.half(4, 1, Due.NONE);
        edge.is("both halves LOST", 1, x.told(4, 6));
        x.half(3, 1, 0);
        edge.is("both halves with one", 0, x.told(3, 4));
    }

    private void toldRefused() {
        edge.promise(18, "Of a NOTE: 0 BANK, 1 sum, 2 marks, 3 WORN ones, 4 the TRADER who has it (NONE: at its BANK, LOST, or HALVED), "
            + "5 whether it is at its BANK (1, 0), 6 whether it is LOST (1, 0). BAD.");
        NoteCounter x = new NoteCounter();
        x.note(7, 100, 254, 253, 6);
        int[] want = {7, 100, 254, 253, 6, 0, 0};
        edge.range("what", 0, 6, v -> x.told(0, v), v -> want[v]);
        for (int what = 0; what < 7; what++) {
            edge.is("what " + what, want[what], x.told(0, what));
        }
        edge.range("NOTE, of one", 0, 0, 100, v -> x.told(v, 1));
        edge.range("NOTE, of 24", 0, 23, v -> notes(24).told(v, 1), v -> v + 1);
        edge.is("NOTE, of none", Due.BAD, new NoteCounter().told(0, 0));
        edge.is("a LOST one is told of", 5, lost().told(0, 1));
        edge.is("BAD of a LOST one", Due.BAD, lost().told(0, 7));
    }

    private static NoteCounter lost() {
        NoteCounter x = new NoteCounter();
        x.bank(0, 0, 1);
        x.note(0, 5, 0, 0, 0);
        x.home(0);
        return x;
    }

    private static final String LOOKS = "A NOTE is FALSE in a TOWN in a WEEK, if it is a GHOST, or some mark that is not WORN is unlike the PLATE; "
        + "else TRUE, if no mark is WORN, or if false PLATES of its BANK are KNOWN there, and the NOTE is unlike each of them in some mark "
        + "that is not WORN; else OPEN.";

    private static int looksOf(int plate, int marks, int worn) {
        NoteCounter x = new NoteCounter();
        x.bank(0, 0, plate);
        x.note(0, 1, marks, worn, 0);
        return x.looks(0, 0, 0);
    }

    private void falseNotes() {
        edge.promise(19, LOOKS);
        for (int bit = 0; bit < 8; bit++) {
            int mark = 1 << bit;
            edge.is("unlike in mark " + bit, 0, looksOf(0, mark, 0));
            edge.is("unlike in mark " + bit + " of a full PLATE", 0, looksOf(255, 255 ^ mark, 0));
            edge.is("unlike in mark " + bit + ", which is WORN", 2, looksOf(0, mark, mark));
            edge.is("unlike in mark " + bit + ", all others WORN", 0, looksOf(0, mark, 255 ^ mark));
            edge.is("like in mark " + bit + ", all others WORN", 2, looksOf(255, mark, 255 ^ mark));
        }
        edge.is("no marks, like", 1, looksOf(0, 0, 0));
        edge.is("all marks, like", 1, looksOf(255, 255, 0));
        edge.is("all unlike", 0, looksOf(0, 255, 0));
        edge.is("all unlike, all WORN", 2, looksOf(0, 255, 255));
        edge.is("all like, one WORN", 2, looksOf(255, 255, 128));
    }

    /** BANK 0 has the PLATE 0000, the NOTE its marks with the lowest WORN. */
    private static NoteCounter wornNote() {
        NoteCounter x = new NoteCounter();
        x.bank(0, 0, 0);
        x.bank(0, 0, 0);
        x.note(0, 1, 0, 1, 0);
        return x;
    }

    private void trueByPlates() {
        edge.promise(19, LOOKS);
        NoteCounter x = wornNote();
        edge.is("no false PLATE", 2, x.looks(0, 0, 299));
        Due.read(x, "week 3 false 1 2;");
        edge.is("of another BANK", 2, x.looks(0, 0, 299));
        Due.read(x, "week 5 false 0 2;");
        edge.is("before it is KNOWN", 2, x.looks(0, 0, 4));
        edge.is("unlike the only one", 1, x.looks(0, 0, 5));
        Due.read(x, "week 7 false 0 1;");
        edge.is("before the second", 1, x.looks(0, 0, 6));
        edge.is("unlike the second in a WORN mark alone", 2, x.looks(0, 0, 7));
        edge.is("in a TOWN where none is KNOWN", 2, x.looks(0, 5, 299));
        x.road(0, 5, 100);
        edge.is("a WEEK later there", 2, x.looks(0, 5, 5));
        edge.is("the first alone is KNOWN there", 1, x.looks(0, 5, 6));
        edge.is("till the second is", 1, x.looks(0, 5, 7));
        edge.is("too", 2, x.looks(0, 5, 8));
        NoteCounter all = wornNote();
        StringBuilder text = new StringBuilder("week 0");
        for (int plate = 2; plate < 42; plate++) {
            text.append("false0 ").append(plate);
        }
        Due.read(all, text.append(';').toString());
        edge.is("unlike each of 40", 1, all.looks(0, 0, 0));
        edge.is("40 of them", 40, all.known(0, 0, 0, 2));
        NoteCounter first = wornNote();
        Due.read(first, "week 0 false 0 2;");
        edge.is("unlike the first entry of all", 1, first.looks(0, 0, 0));
        NoteCounter like = wornNote();
        Due.read(like, "week 0 false 0 1" + " false 0 2".repeat(39) + ";");
        edge.is("like the first, unlike the other 39", 2, like.looks(0, 0, 0));
        NoteCounter last = wornNote();
        Due.read(last, "week 0" + " false 0 2".repeat(39) + ";");
        edge.is("unlike each of 39", 1, last.looks(0, 0, 0));
        Due.read(last, "week 0 false 0 0;");
        edge.is("like the 40th", 2, last.looks(0, 0, 0));
    }

    private void wornMarks() {
        edge.promise(19, LOOKS);
        NoteCounter x = new NoteCounter();
        x.bank(0, 0, 6);
        x.note(0, 1, 6, 0, 0);
        x.note(0, 1, 6, 255, 0);
        x.note(0, 1, 7, 0, 0);
        Due.read(x, "week 0 false 0 6 false 0 7;");
        edge.is("no mark WORN: TRUE, though a false PLATE is the same", 1, x.looks(0, 0, 0));
        edge.is("all WORN: unlike none of them", 2, x.looks(1, 0, 0));
        edge.is("FALSE, whatever is KNOWN", 0, x.looks(2, 0, 0));
        edge.is("FALSE where nothing is", 0, x.looks(2, 5, 0));
        edge.is("TRUE where nothing is", 1, x.looks(0, 5, 0));
    }

    private void ghosts() {
        edge.promise(19, LOOKS);
        NoteCounter x = new NoteCounter();
        x.note(7, 1, 0, 255, 0);
        x.note(0, 1, 0, 0, 0);
        edge.is("GHOST, all WORN", 0, x.looks(0, 0, 0));
        edge.is("GHOST of the first", 0, x.looks(1, 0, 0));
        x.bank(0, 0, 0);
        edge.is("its BANK is there", 1, x.looks(1, 0, 0));
        for (int i = 1; i < 7; i++) {
            x.bank(0, 0, 0);
        }
        edge.is("seven BANKS: GHOST of the eighth", 0, x.looks(0, 0, 0));
        x.bank(0, 0, 0);
        edge.is("eight BANKS", 2, x.looks(0, 0, 0));
        NoteCounter halved = one();
        halved.cut(0, 1);
        edge.is("a HALVED one looks as it did", 1, halved.looks(0, 0, 0));
        edge.is("a LOST one looks as it did", 0, lost().looks(0, 0, 0));
    }

    private void looksRefused() {
        edge.promise(19, "A NOTE in a TOWN in a WEEK: 0 FALSE, 1 TRUE, 2 OPEN. BAD.");
        edge.range("NOTE, of one", 0, 0, 1, v -> one().looks(v, 0, 0));
        edge.range("NOTE, of 24", 0, 23, 0, v -> notes(24).looks(v, 0, 0));
        edge.is("NOTE, of none", Due.BAD, new NoteCounter().looks(0, 0, 0));
        edge.range("TOWN", 0, 5, 1, v -> one().looks(0, v, 0));
        edge.range("WEEK", 0, 299, 1, v -> one().looks(0, 0, v));
    }

    private static final String WORTH = "WORTH of a NOTE in a TOWN in a WEEK, in hundredths: 0, if it is FALSE there; of a BANK that is STOPPED, "
        + "as KNOWN there, the sum times what it pays; else the sum times (100 less OFF, less FAR of the TOWN and its BANK's by 20, cut; "
        + "0 at least); without a way 0.";

    /** A NOTE of so much of a BANK in TOWN 0, so many miles away. */
    private static int worthAt(int sum, int miles) {
        NoteCounter x = new NoteCounter();
        x.bank(0, 0, 0);
        x.note(0, sum, 0, 0, 0);
        x.road(0, 1, miles);
        return x.worth(0, 1, 0);
    }

    private void worthByMiles() {
        edge.promise(20, "All that is divided is cut towards 0.");
        edge.is("1 mile", 10000, worthAt(100, 1));
        edge.is("19 miles", 10000, worthAt(100, 19));
        edge.is("20 miles", 9900, worthAt(100, 20));
        edge.is("39 miles", 9900, worthAt(100, 39));
        edge.is("40 miles", 9800, worthAt(100, 40));
        edge.is("499 miles", 7600, worthAt(100, 499));
        edge.is("500 miles", 7500, worthAt(100, 500));
        edge.promise(20, WORTH);
        edge.is("the least sum at home", 100, one(1).worth(0, 0, 0));
        edge.is("the most sum at home", 10000, one(100).worth(0, 0, 0));
        edge.is("without a way", 0, one(100).worth(0, 1, 0));
        NoteCounter row = one(1);
        row.road(0, 1, 500);
        row.road(1, 2, 500);
        row.road(2, 3, 500);
        row.road(3, 4, 479);
        edge.is("1979 miles: 2 are left", 2, row.worth(0, 4, 0));
        row.road(3, 4, 480);
        edge.is("1980 miles: 1 is left", 1, row.worth(0, 4, 0));
        row.road(3, 4, 499);
        edge.is("1999 miles: 1 is left", 1, row.worth(0, 4, 0));
        row.road(3, 4, 500);
        edge.is("2000 miles: nothing", 0, row.worth(0, 4, 0));
        row.road(4, 5, 500);
        edge.is("2500 miles: 0 at least", 0, row.worth(0, 5, 0));
    }

    private static NoteCounter one(int sum) {
        NoteCounter x = new NoteCounter();
        x.bank(0, 0, 0);
        x.note(0, sum, 0, 0, 0);
        return x;
    }

    private void worthByOff() {
        edge.promise(20, WORTH);
        NoteCounter x = one(100);
        x.road(0, 1, 20);
        Due.read(x, "week 2 off 0 1; week 3 off 0 99; week 4 off 0 100; week 5 off 0 0;");
        edge.is("before it is KNOWN", 10000, x.worth(0, 0, 1));
        edge.is("OFF 1", 9900, x.worth(0, 0, 2));
        edge.is("OFF 99", 100, x.worth(0, 0, 3));
        edge.is("OFF 100", 0, x.worth(0, 0, 4));
        edge.is("OFF 0", 10000, x.worth(0, 0, 5));
        edge.is("OFF 1 and 1 by miles", 9800, x.worth(0, 1, 2));
        edge.is("OFF 99 and 1 by miles", 0, x.worth(0, 1, 3));
        edge.is("OFF 100 and 1 by miles: 0 at least", 0, x.worth(0, 1, 4));
        x.road(0, 2, 100);
        edge.is("100 miles: KNOWN a WEEK later", 9500, x.worth(0, 2, 2));
        edge.is("100 miles: OFF 99, not yet", 9400, x.worth(0, 2, 3));
        edge.is("100 miles: then", 0, x.worth(0, 2, 4));
    }

    private void worthOfStopped() {
        edge.promise(20, WORTH);
        NoteCounter x = one(7);
        x.road(0, 1, 100);
        Due.read(x, "week 2 off 0 50; week 3 stopped 0 0; week 4 stopped 0 100; week 5 stopped 0 1;");
        edge.is("before", 350, x.worth(0, 0, 2));
        edge.is("it pays nothing", 0, x.worth(0, 0, 3));
        edge.is("it pays all: neither OFF nor miles", 700, x.worth(0, 0, 4));
        edge.is("it pays 1", 7, x.worth(0, 0, 5));
        edge.is("100 miles, not KNOWN yet", 315, x.worth(0, 1, 3));
        edge.is("100 miles: it pays nothing", 0, x.worth(0, 1, 4));
        edge.is("100 miles: it pays all", 700, x.worth(0, 1, 5));
        edge.is("without a way", 0, x.worth(0, 5, 299));
        NoteCounter apart = new NoteCounter();
        apart.bank(5, 0, 0);
        apart.note(0, 9, 0, 0, 0);
        Due.read(apart, "week 1 stopped 0 40;");
        edge.is("KNOWN here, no way to its BANK: not STOPPED yet", 0, apart.worth(0, 0, 0));
        edge.is("KNOWN here, no way to its BANK: STOPPED", 360, apart.worth(0, 0, 1));
        edge.is("at its BANK, where it is not KNOWN", 900, apart.worth(0, 5, 299));
        NoteCounter shut = one(7);
        shut.home(0);
        edge.is("a SHUT BANK is not STOPPED", 700, shut.worth(0, 0, 0));
    }

    private void worthOfFalse() {
        edge.promise(20, WORTH);
        NoteCounter x = new NoteCounter();
        x.bank(0, 0, 2);
        x.note(0, 100, 3, 0, 0);
        x.note(0, 100, 3, 1, 0);
        x.note(1, 100, 2, 0, 0);
        Due.read(x, "week 1 stopped 0 60;");
        edge.is("FALSE", 0, x.worth(0, 0, 0));
        edge.is("FALSE, of a STOPPED BANK", 0, x.worth(0, 0, 1));
        edge.is("OPEN", 10000, x.worth(1, 0, 0));
        edge.is("OPEN, of a STOPPED BANK", 6000, x.worth(1, 0, 1));
        edge.is("GHOST", 0, x.worth(2, 0, 0));
        x.bank(0, 0, 2);
        edge.is("GHOST no more", 10000, x.worth(2, 0, 0));
        NoteCounter gone = one(5);
        gone.cut(0, 1);
        edge.is("a HALVED one", 500, gone.worth(0, 0, 0));
        gone.half(0, 0, Due.NONE);
        gone.half(0, 1, Due.NONE);
        edge.is("a LOST one", 500, gone.worth(0, 0, 0));
    }

    private void worthRefused() {
        edge.promise(20, "WORTH in hundredths. BAD.");
        edge.range("NOTE, of one", 0, 0, 1000, v -> one().worth(v, 0, 0));
        edge.range("NOTE, of 24", 0, 23, 0, v -> notes(24).worth(v, 0, 0));
        edge.is("NOTE, of none", Due.BAD, new NoteCounter().worth(0, 0, 0));
        edge.range("TOWN", 0, 5, v -> one().worth(0, v, 0), v -> v == 0 ? 1000 : 0);
        edge.range("WEEK", 0, 299, 1000, v -> one().worth(0, 0, v));
        edge.is("no NOTE, no TOWN", Due.BAD, one().worth(1, 6, 0));
    }

    private void hands() {
        edge.promise(21, "HANDS of a NOTE: how many (i = -1); the i-th TRADER (what = 0), from which WEEK on (1); NONE: not so many, not kept.");
        NoteCounter x = one();
        x.week(299);
        x.pay(0, 7, 1);
        edge.is("how many", 2, x.hands(0, -1, 0));
        edge.is("how many, what = 1", 2, x.hands(0, -1, 1));
        edge.is("the first TRADER", 0, x.hands(0, 0, 0));
        edge.is("from 0 on", 0, x.hands(0, 0, 1));
        edge.is("the second TRADER", 7, x.hands(0, 1, 0));
        edge.is("from 299 on", 299, x.hands(0, 1, 1));
        edge.is("no third TRADER", Due.NONE, x.hands(0, 2, 0));
        edge.is("no third WEEK", Due.NONE, x.hands(0, 2, 1));
        edge.is("i 11", Due.NONE, x.hands(0, 11, 0));
        edge.is("i 12", Due.NONE, x.hands(0, 12, 1));
        edge.is("i MAX", Due.NONE, x.hands(0, Edge.MAX, 0));
        x.home(0);
        edge.is("kept when it is at its BANK", 2, x.hands(0, -1, 0));
        edge.is("the second still", 7, x.hands(0, 1, 0));
        NoteCounter halved = one();
        halved.cut(0, 1);
        edge.is("a half is no HAND", 1, halved.hands(0, -1, 0));
    }

    private void twelveHands() {
        edge.promise(21, "HANDS of a NOTE: TRADERS who had it, one behind the other, each from a WEEK on, 12 at most; one with 12 is not handed "
            + "on any more.");
        NoteCounter x = one();
        for (int hand = 1; hand < 12; hand++) {
            x.week(hand);
            edge.is("HAND " + (hand + 1), 10, x.pay((hand - 1) % 8, hand % 8, 1));
            edge.is("so many", hand + 1, x.hands(0, -1, 0));
        }
        edge.is("no thirteenth", 0, x.pay(3, 4, 1));
        edge.is("the twelfth has it", 3, x.told(0, 4));
        edge.is("12", 12, x.hands(0, -1, 0));
        for (int hand = 0; hand < 12; hand++) {
            edge.is("HAND " + hand, hand % 8, x.hands(0, hand, 0));
            edge.is("from WEEK " + hand, hand, x.hands(0, hand, 1));
        }
        edge.is("none behind the twelfth", Due.NONE, x.hands(0, 12, 0));
        edge.is("no WEEK behind the twelfth", Due.NONE, x.hands(0, 12, 1));
    }

    private void handsRefused() {
        edge.promise(21, "BAD: i below -1.");
        edge.refusedBelow("i", -1, Due.BAD, v -> one().hands(0, v, 0));
        edge.is("i -1", 1, one().hands(0, -1, 0));
        edge.range("what", 0, 1, 0, v -> one().hands(0, 0, v));
        edge.range("what, of no such HAND", 0, 1, Due.NONE, v -> one().hands(0, 1, v));
        edge.range("what, how many", 0, 1, 1, v -> one().hands(0, -1, v));
        edge.range("NOTE, of one", 0, 0, 1, v -> one().hands(v, -1, 0));
        edge.range("NOTE, of 24", 0, 23, 1, v -> notes(24).hands(v, -1, 0));
        edge.is("NOTE, of none", Due.BAD, new NoteCounter().hands(0, -1, 0));
    }
}
