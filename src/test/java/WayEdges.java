/** Boundary cases of promises 28 and 29. */
final class WayEdges {
    private static final int LIST = 0, RATES = 1;
    private final Edge edge;

    WayEdges(Edge edge) {
        this.edge = edge;
    }

    void run() {
        ratesTaken();
        ratesByBanks();
        ratesOrder();
        sellsForRates();
        oneNoteADay();
        goesByRoads();
        lastDay();
        first();
        wayNumbers();
        wayPlaces();
        wayItems();
        anyNote();
    }

    /** NOTES of these sums, of BANKS 0, 1, .. in their order, all on SHEET 0. */
    private static NoteCounter notes(int... sums) {
        NoteCounter x = new NoteCounter();
        int[] list = new int[sums.length];
        for (int i = 0; i < sums.length; i++) {
            x.note(i % 8, sums[i], 0, 0, 0);
            list[i] = i;
        }
        Due.lay(x, LIST, list);
        return x;
    }

    /** In a TOWN the same RATE for all BANKS. */
    private static void rate(NoteCounter x, int town, int rate) {
        Due.lay(x, RATES, rate, rate, rate, rate, rate, rate, rate, rate);
        x.rates(town, RATES, 0);
    }

    private static int ratesOf(int lane, int i, int item) {
        NoteCounter x = new NoteCounter();
        x.sheet(RATES, lane, 8);
        x.set(RATES, i, item);
        return x.rates(3, RATES, 0);
    }

    private void ratesTaken() {
        edge.promise(28, "BAD: TOWN, SHEET; NULL; PLACE; then BAD: an ITEM is not 0 to 100.");
        for (int i = 0; i < 8; i++) {
            int place = i;
            edge.range("ITEM " + i + " of ints", 0, 100, 8, v -> ratesOf(2, place, v));
        }
        edge.taken("an ITEM of bytes", 0, 100, v -> ratesOf(0, 7, v), v -> 8);
        edge.is("an ITEM of bytes, 101", Due.BAD, ratesOf(0, 7, 101));
        edge.is("an ITEM of bytes, 200 is below 0", Due.BAD, ratesOf(0, 7, 200));
        edge.is("an ITEM of bytes, 356 is 100", 8, ratesOf(0, 7, 356));
        edge.is("an ITEM of shorts, 65636 is 100", 8, ratesOf(1, 7, 65636));
        edge.range("TOWN", 0, 5, 8, v -> eightSheets().rates(v, 0, 0));
        edge.range("SHEET", 0, 7, 8, v -> eightSheets().rates(0, v, 0));
        edge.taken("i, of 8", 0, 0, v -> eightSheets().rates(0, 0, v), v -> 8);
        edge.refusedBelow("i", 0, Due.PLACE, v -> eightSheets().rates(0, 0, v));
        edge.refusedAbove("i, of 8", 0, Due.PLACE, v -> eightSheets().rates(0, 0, v));
        edge.taken("i, of 60", 0, 52, v -> sheetOf(60).rates(0, 0, v), v -> 8);
        edge.refusedAbove("i, of 60", 52, Due.PLACE, v -> sheetOf(60).rates(0, 0, v));
        edge.is("of 7", Due.PLACE, sheetOf(7).rates(0, 0, 0));
        edge.is("of none", Due.PLACE, sheetOf(0).rates(0, 0, 0));
        edge.is("of 7, from -1 on", Due.PLACE, sheetOf(7).rates(0, 0, -1));
    }

    private static NoteCounter eightSheets() {
        NoteCounter x = new NoteCounter();
        for (int i = 0; i < 8; i++) {
            x.sheet(i, i % 3, 8);
        }
        return x;
    }

    private static NoteCounter sheetOf(int n) {
        NoteCounter x = new NoteCounter();
        x.sheet(0, 2, n);
        return x;
    }

    private void ratesByBanks() {
        edge.promise(28, "RATES of a TOWN: 8 ITEMS of a SHEET from i on (by BANKS): 8.");
        NoteCounter x = notes(100, 100, 100, 100, 100, 100, 100, 100);
        for (int town = 0; town < 6; town++) {
            for (int note = 0; note < 8; note++) {
                edge.is("0 at first", 0, x.way(town, LIST, note, 1, 1, 0));
            }
        }
        Due.lay(x, RATES, 99, 100, 1, 2, 3, 4, 5, 6, 0, 99);
        edge.is("from 1 on", 8, x.rates(5, RATES, 1));
        int[] want = {100, 1, 2, 3, 4, 5, 6, 0};
        for (int note = 0; note < 8; note++) {
            edge.is("by BANK " + note, want[note], x.way(5, LIST, note, 1, 1, 0));
            edge.is("another TOWN's are as they were " + note, 0, x.way(4, LIST, note, 1, 1, 0));
        }
        Due.lay(x, RATES, 50, 50, 50, 50, 50, 50, 50, 101);
        edge.is("the last ITEM is BAD", Due.BAD, x.rates(5, RATES, 0));
        for (int note = 0; note < 8; note++) {
            edge.is("none of them came " + note, want[note], x.way(5, LIST, note, 1, 1, 0));
        }
        x.drop(RATES);
        edge.is("they stay without the SHEET", 100, x.way(5, LIST, 0, 1, 1, 0));
        rate(x, 5, 7);
        edge.is("in place of those there are", 7, x.way(5, LIST, 7, 1, 1, 0));
    }

    private void ratesOrder() {
        edge.promise(28, "BAD: TOWN, SHEET; NULL; PLACE; then BAD: an ITEM is not 0 to 100.");
        NoteCounter x = new NoteCounter();
        Due.lay(x, 0, 0, 0, 0, 0, 0, 0, 0, 0, 101);
        Due.lay(x, 1, 101);
        edge.is("TOWN ahead of NULL", Due.BAD, x.rates(6, 7, 0));
        edge.is("SHEET ahead of PLACE", Due.BAD, x.rates(0, 8, -1));
        edge.is("TOWN ahead of PLACE", Due.BAD, x.rates(-1, 0, -1));
        edge.is("status of BAD", 0, x.status());
        edge.is("NULL ahead of PLACE", Due.NULL, x.rates(0, 7, -1));
        edge.is("status of NULL", 1, x.status());
        edge.is("PLACE ahead of an ITEM", Due.PLACE, x.rates(0, 1, 0));
        edge.is("status of PLACE", 2, x.status());
        edge.is("an ITEM", Due.BAD, x.rates(0, 0, 1));
        edge.is("status behind a BAD ITEM", 2, x.status());
        edge.is("beside the ITEM", 8, x.rates(0, 0, 0));
        edge.is("status of none", 0, x.status());
    }

    private static int gold(int sum, int rate) {
        NoteCounter x = notes(sum);
        rate(x, 2, rate);
        return x.way(2, LIST, 0, 1, 1, 0);
    }

    private static final String WAY = "A WAY: a drover with n NOTES (1 to 8) goes from a TOWN on for d days (1 to 6): each day he may sell one NOTE at the TOWN "
        + "where he is, for the sum times RATES of that TOWN and the NOTE's BANK (0 to 100) by 100, cut, then goes on by one ROAD, or stays.";

    private void sellsForRates() {
        edge.promise(29, WAY);
        edge.is("1 at 99", 0, gold(1, 99));
        edge.is("1 at 100", 1, gold(1, 100));
        edge.is("2 at 50", 1, gold(2, 50));
        edge.is("2 at 49", 0, gold(2, 49));
        edge.is("99 at 99", 98, gold(99, 99));
        edge.is("100 at 1", 1, gold(100, 1));
        edge.is("100 at 0", 0, gold(100, 0));
        edge.is("100 at 100", 100, gold(100, 100));
        NoteCounter each = notes(99, 99);
        rate(each, 2, 50);
        edge.is("each is cut by itself", 98, each.way(2, LIST, 0, 2, 2, 0));
    }

    private void oneNoteADay() {
        edge.promise(29, WAY);
        NoteCounter x = notes(1, 2, 4, 8, 16, 32, 64, 100);
        rate(x, 0, 100);
        int[] best = {100, 164, 196, 212, 220, 224};
        for (int days = 1; days <= 6; days++) {
            edge.is("eight NOTES, days " + days, best[days - 1], x.way(0, LIST, 0, 8, days, 0));
        }
        int[] all = {1, 3, 7, 15, 31, 63};
        for (int n = 1; n <= 6; n++) {
            edge.is("as many days as NOTES " + n, all[n - 1], x.way(0, LIST, 0, n, n, 0));
            edge.is("six days " + n, all[n - 1], x.way(0, LIST, 0, n, 6, 0));
        }
        edge.is("seven NOTES, six days", 126, x.way(0, LIST, 0, 7, 6, 0));
    }

    private void goesByRoads() {
        edge.promise(29, WAY);
        NoteCounter x = notes(100, 100);
        rate(x, 5, 100);
        edge.is("no ROAD", 0, x.way(0, LIST, 0, 2, 6, 0));
        for (int town = 0; town < 5; town++) {
            x.road(town, town + 1, 500);
        }
        edge.is("five ROADS take five days", 0, x.way(0, LIST, 0, 2, 5, 0));
        edge.is("there on the sixth", 100, x.way(0, LIST, 0, 2, 6, 0));
        edge.is("from one on", 200, x.way(1, LIST, 0, 2, 6, 0));
        edge.is("from there", 100, x.way(5, LIST, 0, 2, 1, 0));
        x.road(0, 5, 500);
        edge.is("one ROAD, however long", 100, x.way(0, LIST, 0, 2, 2, 0));
        edge.is("one day more", 200, x.way(0, LIST, 0, 2, 3, 0));
        x.road(0, 5, 0);
        edge.is("no such ROAD any more", 0, x.way(0, LIST, 0, 2, 2, 0));
        NoteCounter both = notes(100, 100);
        rate(both, 0, 10);
        Due.lay(both, RATES, 100, 0, 0, 0, 0, 0, 0, 0);
        both.rates(1, RATES, 0);
        both.road(0, 1, 1);
        edge.is("one here, one there", 110, both.way(0, LIST, 0, 2, 2, 0));
        edge.is("there and back", 110, both.way(1, LIST, 0, 2, 2, 0));
        edge.is("a NOTE is sold once", 100, both.way(1, LIST, 0, 1, 6, 0));
    }

    private void lastDay() {
        edge.promise(29, "(On the last day he does not go on.)");
        NoteCounter x = notes(100);
        for (int town = 0; town < 6; town++) {
            for (int other = town + 1; other < 6; other++) {
                x.road(town, other, 1);
            }
        }
        for (int town = 0; town < 6; town++) {
            edge.is("one day: he stays in " + town, 16 * town, x.way(town, LIST, 0, 1, 1, 1));
        }
        edge.is("two days: to TOWN 0", 0, x.way(5, LIST, 0, 1, 2, 1));
        rate(x, 4, 100);
        edge.is("one day: what is there is out of reach", 0, x.way(5, LIST, 0, 1, 1, 0));
        edge.is("two days: it is not", 100, x.way(5, LIST, 0, 1, 2, 0));
        edge.is("he goes there with it", 16 * 4 + 15, x.way(5, LIST, 0, 1, 2, 1));
    }

    private void first() {
        edge.promise(29, "MOST: the most gold. FIRST: what he does the first day in a way that brings MOST, the least of 16 times (the TOWN to which he "
            + "goes, or where he stays) and (the place of the NOTE in his list that he sells, 15 for none).");
        NoteCounter x = notes(10, 10, 10, 10, 10, 10, 10, 10);
        edge.is("for nothing: the least TOWN, the least place", 16 * 3, x.way(3, LIST, 0, 8, 6, 1));
        edge.is("for nothing: MOST", 0, x.way(3, LIST, 0, 8, 6, 0));
        x.road(3, 0, 1);
        edge.is("a lesser TOWN", 0, x.way(3, LIST, 0, 8, 6, 1));
        x.road(3, 0, 0);
        x.road(3, 5, 1);
        edge.is("no greater one", 16 * 3, x.way(3, LIST, 0, 8, 6, 1));
        rate(x, 3, 100);
        edge.is("alike: the least place", 16 * 3, x.way(3, LIST, 0, 8, 1, 1));
        Due.lay(x, RATES, 0, 0, 0, 0, 0, 0, 0, 100);
        x.rates(3, RATES, 0);
        edge.is("the last place", 16 * 3 + 7, x.way(3, LIST, 0, 8, 1, 1));
        edge.is("its place in the list, not its number", 16 * 3, x.way(3, LIST, 7, 1, 1, 1));
        edge.is("tomorrow is soon enough", 16 * 3, x.way(3, LIST, 0, 8, 2, 1));
        NoteCounter one = notes(10);
        rate(one, 5, 50);
        one.road(0, 5, 1);
        edge.is("none: 15", 16 * 5 + 15, one.way(0, LIST, 0, 1, 2, 1));
        edge.is("there is time: stay, sell none", 15, one.way(0, LIST, 0, 1, 3, 1));
        edge.is("sold where he is, then to the least TOWN", 0, one.way(5, LIST, 0, 1, 2, 1));
        NoteCounter none = notes(10);
        rate(none, 1, 50);
        none.road(5, 1, 1);
        edge.is("a lesser TOWN with the NOTE, ahead of staying", 16 + 15, none.way(5, LIST, 0, 1, 6, 1));
        edge.is("MOST is the same by either what", 5, none.way(5, LIST, 0, 1, 6, 0));
    }

    private static NoteCounter eightNotes() {
        NoteCounter x = notes(1, 2, 3, 4, 5, 6, 7, 8);
        rate(x, 0, 100);
        return x;
    }

    private void wayNumbers() {
        edge.promise(29, "BAD: TOWN, SHEET, n, d, what; NULL; PLACE; then BAD: an ITEM is no NOTE, or is told twice.");
        edge.range("TOWN", 0, 5, v -> eightNotes().way(v, LIST, 0, 1, 1, 0), v -> v == 0 ? 1 : 0);
        edge.range("n", 1, 8, v -> eightNotes().way(0, LIST, 0, v, 1, 0), v -> v);
        edge.range("days", 1, 6, v -> eightNotes().way(0, LIST, 0, 8, v, 0), v -> v == 1 ? 8 : 33);
        edge.range("what", 0, 1, v -> eightNotes().way(0, LIST, 2, 1, 1, v), v -> v == 0 ? 3 : 0);
        edge.range("SHEET", 0, 7, 1, WayEdges::wayBySheet);
        NoteCounter x = eightNotes();
        edge.is("TOWN ahead of NULL", Due.BAD, x.way(6, 7, 0, 1, 1, 0));
        edge.is("n ahead of NULL", Due.BAD, x.way(0, 7, 0, 9, 1, 0));
        edge.is("n 0 ahead of NULL", Due.BAD, x.way(0, 7, 0, 0, 1, 0));
        edge.is("days ahead of NULL", Due.BAD, x.way(0, 7, 0, 1, 7, 0));
        edge.is("what ahead of NULL", Due.BAD, x.way(0, 7, 0, 1, 1, 2));
        edge.is("TOWN ahead of PLACE", Due.BAD, x.way(-1, LIST, -1, 1, 1, 0));
        edge.is("SHEET ahead of PLACE", Due.BAD, x.way(0, 8, -1, 1, 1, 0));
        edge.is("n ahead of PLACE", Due.BAD, x.way(0, LIST, -1, 0, 1, 0));
        edge.is("days ahead of PLACE", Due.BAD, x.way(0, LIST, -1, 1, 0, 0));
        edge.is("what ahead of PLACE", Due.BAD, x.way(0, LIST, -1, 1, 1, -1));
        edge.is("NULL ahead of PLACE", Due.NULL, x.way(0, 7, -1, 1, 1, 0));
    }

    private static int wayBySheet(int sheet) {
        NoteCounter x = new NoteCounter();
        x.note(0, 1, 0, 0, 0);
        rate(x, 0, 100);
        for (int i = 0; i < 8; i++) {
            x.sheet(i, i % 3, 1);
        }
        return x.way(0, sheet, 0, 1, 1, 0);
    }

    private void wayPlaces() {
        edge.promise(29, "BAD: TOWN, SHEET, n, d, what; NULL; PLACE; then BAD: an ITEM is no NOTE, or is told twice.");
        edge.taken("i of one NOTE", 0, 7, v -> eightNotes().way(0, LIST, v, 1, 1, 0), v -> v + 1);
        edge.refusedBelow("i of one NOTE", 0, Due.PLACE, v -> eightNotes().way(0, LIST, v, 1, 1, 0));
        edge.refusedAbove("i of one NOTE", 7, Due.PLACE, v -> eightNotes().way(0, LIST, v, 1, 1, 0));
        edge.taken("i of three", 0, 5, v -> eightNotes().way(0, LIST, v, 3, 1, 0), v -> v + 3);
        edge.refusedAbove("i of three", 5, Due.PLACE, v -> eightNotes().way(0, LIST, v, 3, 1, 0));
        edge.is("all eight", 8, eightNotes().way(0, LIST, 0, 8, 1, 0));
        edge.is("all eight, one on", Due.PLACE, eightNotes().way(0, LIST, 1, 8, 1, 0));
        NoteCounter x = eightNotes();
        x.sheet(5, 2, 0);
        edge.is("of an empty SHEET", Due.PLACE, x.way(0, 5, 0, 1, 1, 0));
        edge.is("status of PLACE", 2, x.status());
        x.sheet(5, 2, 60);
        edge.is("the last of 60", 1, x.way(0, 5, 59, 1, 1, 0));
        edge.is("beyond 60", Due.PLACE, x.way(0, 5, 59, 2, 1, 0));
        x.set(5, 59, 99);
        edge.is("PLACE ahead of an ITEM", Due.PLACE, x.way(0, 5, 59, 2, 1, 0));
        edge.is("the ITEM", Due.BAD, x.way(0, 5, 59, 1, 1, 0));
        edge.is("status behind a BAD ITEM", 2, x.status());
    }

    private static int wayOfItem(int item) {
        NoteCounter x = new NoteCounter();
        for (int note = 0; note < 24; note++) {
            x.note(0, 1 + note, 0, 0, 0);
        }
        rate(x, 0, 100);
        Due.lay(x, LIST, 7, item);
        return x.way(0, LIST, 1, 1, 1, 0);
    }

    private void wayItems() {
        edge.promise(29, "BAD: TOWN, SHEET, n, d, what; NULL; PLACE; then BAD: an ITEM is no NOTE, or is told twice.");
        edge.range("ITEM, of 24 NOTES", 0, 23, WayEdges::wayOfItem, v -> v + 1);
        for (int wrapped : new int[] {24, 31, 32, 33, 39, 64, -32, -8}) {
            edge.is("ITEM " + wrapped, Due.BAD, wayOfItem(wrapped));
        }
        NoteCounter few = notes(5, 6);
        Due.lay(few, LIST, 0, 1, 2);
        edge.is("both", 0, few.way(0, LIST, 0, 2, 1, 0));
        edge.is("no third NOTE", Due.BAD, few.way(0, LIST, 0, 3, 1, 0));
        edge.is("no NOTE in the last place", Due.BAD, few.way(0, LIST, 2, 1, 1, 0));
        NoteCounter twice = eightNotes();
        for (int i = 0; i < 8; i++) {
            for (int j = 0; j < i; j++) {
                twice.set(LIST, i, j);
                edge.is("place " + i + " told as place " + j, Due.BAD, twice.way(0, LIST, 0, 8, 1, 0));
            }
            twice.set(LIST, i, i);
        }
        edge.is("none told twice", 8, twice.way(0, LIST, 0, 8, 1, 0));
        Due.lay(twice, LIST, 0, 7, 7, 0);
        edge.is("told twice, but not within the list", 8, twice.way(0, LIST, 0, 2, 1, 0));
        edge.is("within it", Due.BAD, twice.way(0, LIST, 1, 2, 1, 0));
        NoteCounter lanes = eightNotes();
        lanes.sheet(6, 0, 1);
        lanes.set(6, 0, 256 + 7);
        edge.is("an ITEM of bytes", 8, lanes.way(0, 6, 0, 1, 1, 0));
    }

    private void anyNote() {
        edge.promise(29, "A WAY of n NOTES, ITEMS (their numbers) of a SHEET from i on, from a TOWN on, of d days: MOST (what = 0), FIRST (1).");
        NoteCounter x = new NoteCounter();
        x.bank(0, 100, 0);
        x.note(0, 10, 0, 0, 0);
        x.note(0, 20, 1, 0, 0);
        x.note(0, 30, 0, 0, 0);
        x.note(7, 40, 0, 0, 0);
        x.home(0);
        x.home(1);
        x.cut(2, 1);
        rate(x, 0, 100);
        Due.lay(x, LIST, 0, 1, 2, 3);
        edge.is("each NOTE there is, wherever it is", 100, x.way(0, LIST, 0, 4, 4, 0));
        edge.is("it is not sold by it", 1, x.told(0, 5));
        edge.is("asked again", 100, x.way(0, LIST, 0, 4, 4, 0));
        edge.is("status", 0, x.status());
    }
}
