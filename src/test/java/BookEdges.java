/** Boundary cases of promises 12 to 16. */
final class BookEdges {
    private static final int FAULT = -1000100;
    private final Edge edge;

    BookEdges(Edge edge) {
        this.edge = edge;
    }

    void run() {
        theWeek();
        weekRefused();
        feedNumbers();
        feedOrder();
        fullTape();
        everyByteAlone();
        everyByteBehindNumber();
        everyByteBehindName();
        tokens();
        otherLetters();
        text();
        entries();
        allOrNone();
        cannotStand();
        notAsTold();
        fortyFirst();
        firstTokenLeastFault();
        booksEmptiesTheTape();
        fault();
        knownByMiles();
        knownWithoutWay();
        off();
        stopped();
        knownRefused();
    }

    private static NoteCounter banks(int n) {
        NoteCounter x = new NoteCounter();
        for (int i = 0; i < n; i++) {
            x.bank(0, 1, 1);
        }
        return x;
    }

    private static NoteCounter inWeek(int week) {
        NoteCounter x = new NoteCounter();
        x.week(week);
        return x;
    }

    private void theWeek() {
        edge.promise(12, "THE WEEK is 0 to 299, 0 at first.");
        edge.range("week", 0, 299, 0, v -> new NoteCounter().week(v));
        edge.taken("THE WEEK then", 0, 299, v -> inWeek(v).count(9), v -> v);
        edge.is("300 is refused, it is 0 still", 0, inWeek(300).count(9));
        edge.is("-1 is refused, it is 0 still", 0, inWeek(-1).count(9));
    }

    private void weekRefused() {
        edge.promise(12, "THE WEEK: what it was. BAD: below what it was, above 299.");
        for (int was : new int[] {1, 150, 298, 299}) {
            edge.is("the same, " + was, was, inWeek(was).week(was));
            edge.is("one below " + was, Due.BAD, inWeek(was).week(was - 1));
            edge.is("0 from " + was, Due.BAD, inWeek(was).week(0));
            edge.is("299 from " + was, was, inWeek(was).week(299));
            edge.is("300 from " + was, Due.BAD, inWeek(was).week(300));
        }
        NoteCounter x = inWeek(7);
        x.week(6);
        x.week(300);
        edge.is("it is as it was", 7, x.week(8));
        edge.is("one on", 8, x.week(9));
    }

    private void feedNumbers() {
        edge.promise(13, "BAD: n; FULL: none comes.");
        edge.range("n", 1, 8, v -> new NoteCounter().feed(-1L, v), v -> v);
        for (int n = 1; n <= 8; n++) {
            int many = n;
            edge.is("the last place for " + n, 400, tapeOf(400 - many).feed(0, many));
            edge.is("one too many of " + n, Due.FULL, tapeOf(401 - many).feed(0, many));
        }
        NoteCounter x = tapeOf(400);
        edge.is("FULL", Due.FULL, x.feed(0, 1));
        edge.is("n 0 ahead of FULL", Due.BAD, x.feed(0, 0));
        edge.is("n 9 ahead of FULL", Due.BAD, x.feed(0, 9));
        NoteCounter almost = tapeOf(399);
        edge.is("two", Due.FULL, almost.feed(0x3b3bL, 2));
        edge.is("none came", 399, almost.count(8));
        edge.is("one comes", 400, almost.feed(0x20L, 1));
        edge.is("all of it is blank", 0, almost.books());
    }

    /** A tape with so many blanks. */
    private static NoteCounter tapeOf(int bytes) {
        NoteCounter x = new NoteCounter();
        Due.type(x, " ".repeat(bytes));
        return x;
    }

    private void feedOrder() {
        edge.promise(13, "The lowest n bytes of w (1 to 8), the highest of them first, come behind the tape: how many it has.");
        NoteCounter x = banks(1);
        edge.is("all eight", 8, x.feed(0x7765656b2031206fL, 8));
        edge.is("six of eight", 14, x.feed(0x3b3b_666620302031L, 6));
        edge.is("the lowest one", 15, x.feed(0x7777777777777700L | ';', 1));
        edge.is("week 1 off 0 1;", 1, x.books());
        edge.is("as it was fed", 1, x.known(0, 1, 0, 0));
        NoteCounter high = new NoteCounter();
        edge.is("the highest bit of w", 8, high.feed(0x8020202020202020L, 8));
        edge.is("is in the first byte", FAULT, high.books());
        NoteCounter low = new NoteCounter();
        low.feed(0x2020202020202080L, 8);
        edge.is("the lowest byte is the last", FAULT - 7, low.books());
        NoteCounter two = new NoteCounter();
        two.feed(0x20L, 1);
        two.feed(Long.MIN_VALUE + 0x203bL, 2);
        edge.is("behind what is there", FAULT - 2, two.books());
        edge.is("from the start on again", 3, two.feed(0x202020L, 3));
    }

    private void fullTape() {
        edge.promise(14, "TEXTS: THE TAPE has at most 400 bytes;");
        faultAt("a".repeat(400), 1, 0);
        faultAt("0".repeat(400), 1, 0);
        faultAt(" ".repeat(399) + "1", 1, 399);
        faultAt(" ".repeat(396) + "week", 1, 400);
        faultAt("week" + "\n".repeat(396), 1, 400);
        faultAt("week" + " ".repeat(395) + "1", 1, 400);
        faultAt("week 1 off 0 1" + " ".repeat(386), 1, 400);
        faultAt("week 1 off 0 1;" + " ".repeat(384) + ";", 1, 399);
        faultAt("week 1 off 0" + " ".repeat(384) + "0101", 2, 396);
        good("week 1 off 0 1" + " ".repeat(385) + ";", 1);
        good("\n".repeat(385) + "week 1 off 0 1;", 1);
        good(" ".repeat(400), 0);
    }

    private void faultAt(String text, int number, int place) {
        NoteCounter x = banks(2);
        String told = text.length() > 60 ? text.length() + " bytes" : text;
        edge.is(told + ": place", FAULT - place, Due.read(x, text));
        edge.is(told + ": number", number, x.fault());
        edge.is(told + ": none comes", 0, x.count(3));
        edge.is(told + ": the tape is empty", 0, x.count(8));
    }

    private void good(String text, int entries) {
        NoteCounter x = banks(2);
        String told = text.length() > 60 ? text.length() + " bytes" : text;
        edge.is(told, entries, Due.read(x, text));
        edge.is(told + ": no fault", 0, x.fault());
        edge.is(told + ": so many came", entries, x.count(3));
    }

    private static final String TOKENS = "TOKENS: NAMES (letters a to z), NUMBERS (figures, 4 at most), SIGNS ; bytes 32 and 10 between.";

    private void everyByteAlone() {
        edge.promise(14, TOKENS);
        for (int b = 0; b < 256; b++) {
            NoteCounter x = banks(1);
            x.feed(b, 1);
            boolean blank = b == 32 || b == 10;
            edge.is("byte " + b + " alone", blank ? 0 : FAULT, x.books());
            edge.is("byte " + b + " alone: fault", blank ? 0 : 1, x.fault());
        }
    }

    private static NoteCounter readWith(String ahead, int b, String behind) {
        NoteCounter x = banks(1);
        Due.type(x, ahead);
        x.feed(b, 1);
        Due.type(x, behind);
        return x;
    }

    /** A figure makes the NUMBER longer; all else ends it. */
    private void everyByteBehindNumber() {
        edge.promise(14, TOKENS);
        for (int b = 0; b < 256; b++) {
            NoteCounter x = readWith("week 1 off 0 1", b, ";");
            boolean blank = b == 32 || b == 10;
            boolean figure = b >= '0' && b <= '9';
            int want = blank || figure ? 1 : b == ';' ? FAULT - 15 : FAULT - 14;
            edge.is("byte " + b + " behind a NUMBER", want, x.books());
            edge.is("byte " + b + " behind a NUMBER: value", figure ? 10 + b - '0' : blank ? 1 : 0, x.known(0, 1, 0, 0));
        }
    }

    /** A letter makes the NAME longer; all else ends it. */
    private void everyByteBehindName() {
        edge.promise(14, TOKENS);
        for (int b = 0; b < 256; b++) {
            NoteCounter x = readWith("week", b, "off 0 1;");
            boolean letter = b >= 'a' && b <= 'z';
            boolean figure = b >= '0' && b <= '9';
            boolean blank = b == 32 || b == 10;
            int want = letter ? FAULT : figure ? 1 : blank ? FAULT - 5 : FAULT - 4;
            edge.is("byte " + b + " behind a NAME", want, x.books());
        }
    }

    private void tokens() {
        edge.promise(14, TOKENS);
        good("week 1 off 0 0001;", 1);
        good("week 0299 off 0001 0100;", 1);
        faultAt("week 1 off 0 00001;", 1, 13);
        faultAt("week 00001 off 0 1;", 1, 5);
        faultAt("week 1 off 00000 1;", 1, 11);
        faultAt("week 10000 off 0 1;", 1, 5);
        faultAt("week 9999 off 0 1;", 2, 5);
        faultAt("week 1 off 0 4294967297;", 1, 13);
        good("week1off0 1;", 1);
        good("week1off0 1off1 2;week2off0 3;", 3);
        good("\n\n  week \n 1 \n\n off 0\n1 ; \n", 1);
        faultAt("we ek 1 off 0 1;", 1, 0);
        faultAt("week 1 o ff 0 1;", 1, 7);
        faultAt("WEEK 1 off 0 1;", 1, 0);
        faultAt("week 1 offa 0 1;", 1, 7);
        faultAt("week 1 of 0 1;", 1, 7);
        faultAt("week 1 falsee 0 1;", 1, 7);
        faultAt("week 1 fals 0 1;", 1, 7);
        faultAt("week 1 stoppe 0 1;", 1, 7);
        faultAt("week 1 stoppedd 0 1;", 1, 7);
        faultAt("wee 1 off 0 1;", 1, 0);
        faultAt("week 1 off 01;", 1, 13);
        good("week 1 off 0 01;", 1);
    }

    /** Each letter of each word by itself, one on in the alphabet. */
    private void otherLetters() {
        edge.promise(14, TOKENS);
        for (String word : new String[] {"week", "off", "false", "stopped"}) {
            for (int i = 0; i < word.length(); i++) {
                String other = word.substring(0, i) + (char) (word.charAt(i) + 1) + word.substring(i + 1);
                boolean book = word.equals("week");
                faultAt(book ? other + " 1 off 0 1;" : "week 1 " + other + " 0 1;", 1, book ? 0 : 7);
            }
        }
    }

    private void text() {
        edge.promise(14, "text: { 'week' NUMBER entry { entry } ';' }: the BOOK of a WEEK (0 to 299);");
        good("", 0);
        good(" \n", 0);
        good("week 0 off 0 1;", 1);
        good("week 299 off 0 1;", 1);
        faultAt("week 300 off 0 1;", 2, 5);
        faultAt("week 0300 off 0 1;", 2, 5);
        good("week 1 off 0 1 off 0 1;", 2);
        good("week 1 off 0 1;week 1 off 0 1;", 2);
        good("week 9 off 0 1; week 0 off 0 1;", 2);
        faultAt("week 1;", 1, 6);
        faultAt(";", 1, 0);
        faultAt("week 1 off 0 1;;", 1, 15);
        faultAt("week 1 off 0 1", 1, 14);
        faultAt("week 1 off 0 1 week 2 off 0 1;", 1, 15);
        faultAt("week 1 off 0 1; 1", 1, 16);
        faultAt("off 0 1;", 1, 0);
        NoteCounter later = banks(1);
        later.week(3);
        edge.is("a WEEK that THE WEEK is past, and one that is not", 2, Due.read(later, "week 0 off 0 1; week 299 off 0 2;"));
    }

    private void entries() {
        edge.promise(14, "entry: 'off' NUMBER NUMBER (a BANK; by so much in the hundred, 0 to 100, its notes are worth less) | "
            + "'false' NUMBER NUMBER (a BANK; marks that a false PLATE has, 0 to 255) | "
            + "'stopped' NUMBER NUMBER (a BANK; so much in the hundred it still pays, 0 to 100).");
        String[] words = {"off", "false", "stopped"};
        int[] most = {100, 255, 100};
        for (int i = 0; i < 3; i++) {
            String head = "week 1 " + words[i];
            int at = head.length() + 1;
            good(head + " 0 0;", 1);
            good(head + " 1 " + most[i] + ";", 1);
            faultAt(head + " 0 " + (most[i] + 1) + ";", 2, at + 2);
            faultAt(head + " 0 9999;", 2, at + 2);
            faultAt(head + " 2 0;", 2, at);
            faultAt(head + " 9999 0;", 2, at);
            faultAt(head + ";", 1, at - 1);
            faultAt(head + " 0;", 1, at + 1);
            faultAt(head + " 0 off", 1, at + 2);
            faultAt(head + " off", 1, at);
            faultAt(head + " 0 1 1;", 1, at + 4);
            faultAt(head + " -1 0;", 1, at);
            faultAt(head + " 0 -1;", 1, at + 2);
            faultAt(head, 1, at - 1);
            faultAt(head + " 0", 1, at + 1);
            faultAt(head + " 0 0", 1, at + 3);
        }
    }

    private static String book(int entries) {
        return "week 0" + " off 0 1".repeat(entries) + ";";
    }

    private void allOrNone() {
        edge.promise(14, "They come behind those there are (40 together at most), when all is read.");
        NoteCounter x = banks(1);
        edge.is("40 at once", 40, Due.read(x, book(40)));
        edge.is("40 are there", 40, x.count(3));
        edge.is("an empty tape with 40", 40, x.books());
        NoteCounter one = banks(1);
        edge.is("41 at once", FAULT - (6 + 40 * 8 + 1), Due.read(one, book(41)));
        edge.is("none of them", 0, one.count(3));
        edge.is("20", 20, Due.read(one, book(20)));
        edge.is("21 more", FAULT - (6 + 20 * 8 + 1), Due.read(one, book(21)));
        edge.is("20 still", 20, one.count(3));
        edge.is("20 more", 40, Due.read(one, book(20)));
        NoteCounter last = banks(1);
        Due.read(last, "week 5 off 0 7;");
        edge.is("a FAULT behind good ones", FAULT - 16, Due.read(last, "week 5 off 0 90;?"));
        edge.is("what was read ahead of it is not there", 7, last.known(0, 5, 0, 0));
        edge.is("behind those there are", 2, Due.read(last, "week 5 off 0 8;"));
        edge.is("told last", 8, last.known(0, 5, 0, 0));
    }

    private void cannotStand() {
        edge.promise(14, "FAULTS, the first TOKEN that has one (its first byte), of one TOKEN the least: 1 it cannot stand there, "
            + "or is none (the end: how many bytes there are);");
        faultAt("week", 1, 4);
        faultAt("week 1", 1, 6);
        faultAt("week 1 ", 1, 7);
        faultAt("week 1 off\n\n", 1, 12);
        faultAt("week 1 off 0  ", 1, 14);
        faultAt("week 1 off 0 1 ", 1, 15);
        faultAt("week 1 off 0 1;week", 1, 19);
        faultAt("   abc", 1, 3);
        faultAt("week    12345", 1, 8);
        faultAt("week 1 off 0 1 !", 1, 15);
        faultAt("week 1 off 0 1;\u0000", 1, 15);
        faultAt("week 1 off 0 1;\u00ff", 1, 15);
    }

    private void notAsTold() {
        edge.promise(14, "2 a NUMBER that is not as told (a BANK that is not there yet, too);");
        NoteCounter x = new NoteCounter();
        for (int banks = 0; banks < 8; banks++) {
            String text = "week 1 off " + banks + " 1;";
            edge.is("BANK " + banks + " of " + banks, FAULT - 11, Due.read(x, text));
            edge.is("is 2", 2, x.fault());
            x.bank(0, 0, 0);
            edge.is("BANK " + banks + " when it is there", banks + 1, Due.read(x, text));
        }
        edge.is("BANK 8 of 8", FAULT - 11, Due.read(x, "week 1 off 8 1;"));
        edge.is("WEEK 299", 9, Due.read(x, "week 299 off 7 1;"));
        edge.is("WEEK 300", FAULT - 5, Due.read(x, "week 300 off 7 1;"));
        edge.is("it is 2, too", 2, x.fault());
    }

    private void fortyFirst() {
        edge.promise(14, "3 the 41st entry (its word).");
        NoteCounter x = banks(1);
        Due.read(x, book(39));
        edge.is("the 41st in a text of two", FAULT - 15, Due.read(x, "week 0 off 0 1 off 0 1;"));
        edge.is("3", 3, x.fault());
        edge.is("39 still", 39, x.count(3));
        edge.is("the 40th", 40, Due.read(x, "week 0 stopped 0 1;"));
        edge.is("the 41st alone", FAULT - 9, Due.read(x, "week 0   false 0 1;"));
        edge.is("3 again", 3, x.fault());
        edge.is("the 41st of another BOOK", FAULT - 7, Due.read(x, "week 9 off 0 1;"));
        edge.is("its word is the last TOKEN", FAULT - 7, Due.read(x, "week 0 off"));
        edge.is("3 still", 3, x.fault());
        NoteCounter split = banks(1);
        edge.is("in the second BOOK of a text", FAULT - (7 + 39 * 8 + 15), Due.read(split,
            book(39) + "week 1 off 0 1 off 0 1;"));
        edge.is("3 in the second BOOK", 3, split.fault());
    }

    private void firstTokenLeastFault() {
        edge.promise(14, "FAULTS, the first TOKEN that has one (its first byte), of one TOKEN the least: 1 it cannot stand there, "
            + "or is none (the end: how many bytes there are);");
        faultAt("week 300 off 9 999;", 2, 5);
        faultAt("week 1 off 9 999;", 2, 11);
        faultAt("week 1 off 9 ?", 2, 11);
        faultAt("week 300 ?", 2, 5);
        faultAt("week ? 300", 1, 5);
        faultAt("9999", 1, 0);
        faultAt("week 1 9999", 1, 7);
        faultAt("week 1 off 0 1 9999;", 1, 15);
        faultAt("week 99999 off 0 1;", 1, 5);
        NoteCounter x = banks(1);
        Due.read(x, book(40));
        edge.is("with 40: a word that cannot stand there", FAULT - 7, Due.read(x, "week 0 on 0 1;"));
        edge.is("is 1, not 3", 1, x.fault());
        edge.is("with 40: a sign that cannot stand there", FAULT - 6, Due.read(x, "week 0;"));
        edge.is("is 1", 1, x.fault());
        edge.is("with 40: a WEEK that is not as told comes first", FAULT - 5, Due.read(x, "week 300 off 0 1;"));
        edge.is("is 2", 2, x.fault());
        edge.is("with 40: the word comes ahead of its BANK", FAULT - 7, Due.read(x, "week 0 off 9 1;"));
        edge.is("is 3", 3, x.fault());
        edge.is("with 40: the end", FAULT - 6, Due.read(x, "week 0"));
        edge.is("is 1 again", 1, x.fault());
    }

    private void booksEmptiesTheTape() {
        edge.promise(14, "The tape, empty then, is read: how many entries there are. -1000100 less the place of a FAULT: none comes.");
        NoteCounter x = banks(1);
        edge.is("of a new tape", 0, x.books());
        Due.type(x, "week 1 off 0 1;");
        edge.is("one", 1, x.books());
        edge.is("empty then", 0, x.count(8));
        edge.is("read again, nothing more", 1, x.books());
        Due.type(x, "week 1 off 0 ");
        edge.is("the end is missing", FAULT - 13, x.books());
        edge.is("empty then, too", 0, x.count(8));
        Due.type(x, "1;");
        edge.is("the rest does not go on with it: the first place", -1000100, x.books());
        Due.type(x, " ".repeat(396) + "week");
        edge.is("the last place", -1000500, x.books());
        edge.is("one still", 1, x.count(3));
        edge.is("400 fit again", 400, Due.type(x, "\n".repeat(400)));
    }

    private void fault() {
        edge.promise(15, "The number of the latest FAULT; 0 before one.");
        NoteCounter x = banks(1);
        edge.is("before one", 0, x.fault());
        Due.read(x, book(40));
        edge.is("behind a good text", 0, x.fault());
        Due.read(x, "week 300");
        edge.is("2", 2, x.fault());
        edge.is("a good text", 40, Due.read(x, "\n"));
        edge.is("2 still: it is the latest", 2, x.fault());
        Due.read(x, "week 0 off");
        edge.is("3", 3, x.fault());
        Due.read(x, "off");
        edge.is("1", 1, x.fault());
        edge.is("asked again", 1, x.fault());
        Due.type(x, "week 300");
        edge.is("not before it is read", 1, x.fault());
    }

    private static final String KNOWN = "KNOWN in a TOWN in a WEEK: entries of BOOKS of WEEKS no later than that WEEK less (FAR of TOWN 0, "
        + "where it is printed, and the TOWN, by 100, cut); nothing, if there is no way.";

    private static NoteCounter farTown(int miles) {
        NoteCounter x = banks(1);
        Due.read(x, "week 10 off 0 33 stopped 0 44 false 0 55;");
        x.road(0, 5, miles);
        return x;
    }

    private void knownFrom(int miles, int week) {
        NoteCounter x = farTown(miles);
        String where = miles + " miles, WEEK ";
        edge.is(where + (week - 1) + ": OFF not yet", 0, x.known(5, week - 1, 0, 0));
        edge.is(where + (week - 1) + ": STOPPED not yet", Due.NONE, x.known(5, week - 1, 0, 1));
        edge.is(where + (week - 1) + ": no false PLATE yet", 0, x.known(5, week - 1, 0, 2));
        edge.is(where + week + ": OFF", 33, x.known(5, week, 0, 0));
        edge.is(where + week + ": STOPPED", 44, x.known(5, week, 0, 1));
        edge.is(where + week + ": a false PLATE", 1, x.known(5, week, 0, 2));
    }

    private void knownByMiles() {
        edge.promise(16, KNOWN);
        knownFrom(1, 10);
        knownFrom(99, 10);
        knownFrom(100, 11);
        knownFrom(199, 11);
        knownFrom(200, 12);
        knownFrom(499, 14);
        knownFrom(500, 15);
        NoteCounter home = farTown(0);
        edge.is("in TOWN 0, a WEEK ahead", 0, home.known(0, 9, 0, 0));
        edge.is("in TOWN 0, that WEEK", 33, home.known(0, 10, 0, 0));
        NoteCounter row = banks(1);
        for (int town = 0; town < 5; town++) {
            row.road(town, town + 1, 500);
        }
        Due.read(row, "week 0 off 0 12; week 274 off 0 13; week 275 off 0 14; week 299 off 0 15;");
        edge.is("2500 miles: a WEEK less than none", 0, row.known(5, 0, 0, 0));
        edge.is("2500 miles, WEEK 24", 0, row.known(5, 24, 0, 0));
        edge.is("2500 miles, WEEK 25", 12, row.known(5, 25, 0, 0));
        edge.is("2500 miles, WEEK 298", 12, row.known(5, 298, 0, 0));
        edge.is("2500 miles, WEEK 299", 13, row.known(5, 299, 0, 0));
        edge.is("no miles, WEEK 299", 15, row.known(0, 299, 0, 0));
        edge.is("no miles, WEEK 298", 14, row.known(0, 298, 0, 0));
        edge.is("no miles, WEEK 0", 12, row.known(0, 0, 0, 0));
        row.road(0, 5, 1);
        edge.is("by a shorter way", 15, row.known(5, 299, 0, 0));
        edge.is("whatever THE WEEK is", 0, row.count(9));
    }

    private void knownWithoutWay() {
        edge.promise(16, KNOWN);
        NoteCounter x = farTown(0);
        edge.is("OFF without a way", 0, x.known(5, 299, 0, 0));
        edge.is("STOPPED without a way", Due.NONE, x.known(5, 299, 0, 1));
        edge.is("no false PLATE without a way", 0, x.known(5, 299, 0, 2));
        x.road(4, 5, 1);
        edge.is("with a ROAD, but no way to TOWN 0", 0, x.known(5, 299, 0, 0));
        x.road(0, 4, 1);
        edge.is("with a way", 33, x.known(5, 10, 0, 0));
        edge.is("before it", 0, x.known(5, 9, 0, 0));
        x.road(0, 4, 0);
        edge.is("known no more", 0, x.known(5, 10, 0, 0));
    }

    private void off() {
        edge.promise(16, "OFF of a BANK: of those KNOWN that of the latest WEEK, of one told last; 0.");
        NoteCounter x = banks(2);
        edge.is("none", 0, x.known(0, 299, 0, 0));
        Due.read(x, "week 5 off 0 50; week 4 off 0 40; week 5 off 0 51 off 1 99; week 3 off 0 30;");
        edge.is("WEEK 2", 0, x.known(0, 2, 0, 0));
        edge.is("WEEK 3", 30, x.known(0, 3, 0, 0));
        edge.is("WEEK 4", 40, x.known(0, 4, 0, 0));
        edge.is("WEEK 5, told last", 51, x.known(0, 5, 0, 0));
        edge.is("WEEK 299", 51, x.known(0, 299, 0, 0));
        edge.is("the other BANK", 99, x.known(0, 5, 1, 0));
        Due.read(x, "week 5 off 0 0;");
        edge.is("0 that is told last", 0, x.known(0, 5, 0, 0));
        Due.read(x, "week 5 off 0 100;");
        edge.is("the most", 100, x.known(0, 5, 0, 0));
        Due.read(x, "week 5 stopped 0 7 false 0 8;");
        edge.is("other words are no OFF", 100, x.known(0, 5, 0, 0));
    }

    private void stopped() {
        edge.promise(16, "STOPPED: likewise; NONE.");
        NoteCounter x = banks(2);
        edge.is("none", Due.NONE, x.known(0, 299, 0, 1));
        Due.read(x, "week 5 stopped 0 50; week 4 stopped 0 40; week 5 stopped 0 51 stopped 1 99; week 3 stopped 0 0;");
        edge.is("WEEK 2", Due.NONE, x.known(0, 2, 0, 1));
        edge.is("WEEK 3, it pays nothing", 0, x.known(0, 3, 0, 1));
        edge.is("WEEK 4", 40, x.known(0, 4, 0, 1));
        edge.is("WEEK 5, told last", 51, x.known(0, 5, 0, 1));
        edge.is("the other BANK", 99, x.known(0, 5, 1, 1));
        Due.read(x, "week 5 off 0 7 false 0 8;");
        edge.is("other words are no STOPPED", 51, x.known(0, 5, 0, 1));
        NoteCounter shut = new NoteCounter();
        shut.bank(0, 0, 0);
        shut.note(0, 1, 0, 0, 0);
        shut.home(0);
        edge.is("SHUT is not STOPPED", Due.NONE, shut.known(0, 299, 0, 1));
    }

    private void knownRefused() {
        edge.promise(16, "In a TOWN in a WEEK: OFF of a BANK (what = 0), STOPPED (1; NONE), how many false PLATES of it are KNOWN (2). BAD.");
        NoteCounter x = banks(8);
        Due.read(x, "week 0 false 0 1 false 0 2 off 0 3 stopped 0 4 off 7 3;");
        int[] want = {3, 4, 2};
        edge.range("what", 0, 2, v -> x.known(0, 0, 0, v), v -> want[v]);
        edge.is("what 1", 4, x.known(0, 0, 0, 1));
        edge.range("TOWN", 0, 5, v -> x.known(v, 0, 0, 0), v -> v == 0 ? 3 : 0);
        edge.range("WEEK", 0, 299, 3, v -> x.known(0, v, 0, 0));
        edge.range("BANK, of eight", 0, 7, 3, v -> x.known(0, 0, v, 0));
        edge.range("BANK, of one", 0, 0, 0, v -> banks(1).known(0, 0, v, 0));
        edge.is("BANK, of none", Due.BAD, new NoteCounter().known(0, 0, 0, 0));
        edge.is("no false PLATE of another", 0, x.known(0, 0, 7, 2));
        edge.is("THE WEEK may be later", 0, x.week(299));
        edge.is("an earlier one is asked", 3, x.known(0, 0, 0, 0));
        NoteCounter all = banks(1);
        Due.read(all, "week 0" + " false 0 1".repeat(20) + ";");
        Due.read(all, "week 1" + " false 0 1".repeat(20) + ";");
        edge.is("false PLATES of one WEEK", 20, all.known(0, 0, 0, 2));
        edge.is("40 false PLATES", 40, all.known(0, 299, 0, 2));
    }
}
