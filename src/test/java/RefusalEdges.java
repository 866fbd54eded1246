import java.util.Arrays;

/**
 * "What is refused, or found, changes nothing but status()": for each way to be refused, an object that was refused is
 * held against a twin that was not even asked, by all that can be seen of them.
 */
final class RefusalEdges {
    private static final String SENTENCE = "What is refused, or found, changes nothing but status().";
    private static final int MIN = Edge.MIN, MAX = Edge.MAX;
    /** The status that a world is left with: one of as(), and none. */
    private static final int[] STATUS_AHEAD = {3, 0};

    private interface Caller {
        int call(NoteCounter x, int[] a);
    }

    private final Edge edge;
    private World world;
    private int[][] twinsLooks;

    RefusalEdges(Edge edge) {
        this.edge = edge;
    }

    void run() {
        begin(World.mixed());
        mixedAsMeant();
        badSheets();
        badTowns();
        badNotes();
        badTraders();
        badWays();
        badAsks();
        badItems();
        states();
        findings();
        begin(World.full());
        fulls();
    }

    private void begin(World begun) {
        world = begun;
        twinsLooks = new int[world.looks()][];
        edge.promise(1, SENTENCE);
        for (int look = 0; look < world.looks(); look++) {
            twinsLooks[look] = world.look(look, world.make());
            int[] again = world.look(look, world.make());
            edge.is("twins answer alike, look " + look, 1, Arrays.equals(twinsLooks[look], again) ? 1 : 0);
            edge.is("no more than 512 calls, look " + look, 1, world.calls(look) + 3 <= World.MOST_CALLS ? 1 : 0);
        }
    }

    /** Refusals would tell little of a world that is not what it is meant to be. */
    private void mixedAsMeant() {
        int[] kinds = {0, 5, 4, 4, 0, 0, 3, 1, 2};
        NoteCounter x = world.make();
        for (int note = 0; note < kinds.length; note++) {
            edge.is("KIND of NOTE " + note, kinds[note], x.kind(note));
        }
        edge.is("NOTE 0 is at its BANK", 1, x.told(0, 5));
        edge.is("NOTE 3 has one half", Due.STATE, x.half(3, 0, 1));
        edge.is("NOTE 4 is whole again", 6, x.told(4, 4));
        edge.is("NOTE 5 has 12 HANDS", 12, x.hands(5, -1, 0));
        edge.is("a BANK is SHUT", 1, x.count(2));
        edge.is("bytes on the tape", 14, x.count(8));
        edge.is("entries", 7, x.count(3));
        edge.is("a FAULT", 2, x.fault());
        edge.is("a TRACE", 13, x.trace(0));
    }

    private void refused(String told, int want, World.Call call) {
        for (int ahead : STATUS_AHEAD) {
            NoteCounter x = world.make();
            leaveStatus(x, ahead);
            edge.is(told, want, call.on(x));
            edge.is(told + ": status", want <= Due.NULL ? -1000010 - want : ahead, x.status());
        }
        for (int look = 0; look < world.looks(); look++) {
            NoteCounter x = world.make();
            call.on(x);
            edge.is(told + ": look " + look + " differs at", -1, Arrays.mismatch(twinsLooks[look], world.look(look, x)));
        }
    }

    private static void leaveStatus(NoteCounter x, int status) {
        x.as(0, status == 0 ? 0 : 5);
    }

    /** Each number by itself below its least and above its most; null: any number will do. */
    private void bad(int promise, String name, Caller caller, int[] good, int[]... ranges) {
        edge.promise(promise, SENTENCE);
        for (int k = 0; k < ranges.length; k++) {
            if (ranges[k] != null) {
                for (int wrong : new int[] {ranges[k][0] - 1, ranges[k][1] + 1, MIN, MAX}) {
                    int[] args = good.clone();
                    args[k] = wrong;
                    refused(name + Arrays.toString(args), Due.BAD, x -> caller.call(x, args));
                }
            }
        }
    }

    private static int[] to(int least, int most) {
        return new int[] {least, most};
    }

    private static int[] numbers(int... all) {
        return all;
    }

    private static final int[] SHEET = to(0, 7), TOWN = to(0, 5), BANK = to(0, 4), NOTE = to(0, 13), TRADER = to(0, 7), WEEK = to(0, 299);

    private void badSheets() {
        Caller sheet = (x, a) -> x.sheet(a[0], a[1], a[2]);
        bad(2, "sheet", sheet, numbers(0, 1, 5), SHEET, to(0, 2));
        edge.promise(2, SENTENCE);
        refused("sheet n 61", Due.BAD, x -> x.sheet(0, 1, 61));
        refused("sheet n MAX", Due.BAD, x -> x.sheet(0, 1, MAX));
        bad(3, "set", (x, a) -> x.set(a[0], a[1], a[2]), numbers(0, 1, 5), SHEET);
        bad(4, "copy", (x, a) -> x.copy(a[0], a[1], a[2], a[3], a[4]), numbers(0, 1, 6, 1, 3), SHEET, null, SHEET);
        bad(5, "drop", (x, a) -> x.drop(a[0]), numbers(0), SHEET);
    }

    private void badTowns() {
        bad(6, "road", (x, a) -> x.road(a[0], a[1], a[2]), numbers(0, 1, 7), TOWN, TOWN, to(0, 500));
        edge.promise(6, SENTENCE);
        refused("road alike", Due.BAD, x -> x.road(1, 1, 7));
        refused("road alike, none", Due.BAD, x -> x.road(0, 0, 0));
        bad(7, "far", (x, a) -> x.far(a[0], a[1]), numbers(0, 1), TOWN, TOWN);
        bad(8, "bank", (x, a) -> x.bank(a[0], a[1], a[2]), numbers(0, 9, 9), TOWN, to(0, 99999), to(0, 255));
        bad(9, "house", (x, a) -> x.house(a[0], a[1]), numbers(0, 1), BANK, to(0, 4));
        bad(10, "hold", (x, a) -> x.hold(a[0], a[1], a[2]), numbers(0, 1, 7), BANK, BANK, to(0, 9999));
        bad(10, "hold alike", (x, a) -> x.hold(a[0], a[1], a[2]), numbers(1, 1, 7), null, null, to(0, 99999));
        bad(11, "falls", (x, a) -> x.falls(a[0]), numbers(0), to(0, 1));
        bad(12, "week", (x, a) -> x.week(a[0]), numbers(12), to(12, 299));
        bad(13, "feed", (x, a) -> x.feed(0x3b3b3b3b3b3b3b3bL, a[0]), numbers(1), to(1, 8));
        bad(16, "known", (x, a) -> x.known(a[0], a[1], a[2], a[3]), numbers(0, 9, 0, 0), TOWN, WEEK, BANK, to(0, 2));
    }

    private void badNotes() {
        bad(17, "note", (x, a) -> x.note(a[0], a[1], a[2], a[3], a[4]), numbers(0, 9, 5, 0, 1), to(0, 7), to(1, 100), to(0, 255),
            to(0, 255), TRADER);
        bad(18, "told", (x, a) -> x.told(a[0], a[1]), numbers(0, 1), NOTE, to(0, 6));
        bad(19, "looks", (x, a) -> x.looks(a[0], a[1], a[2]), numbers(9, 0, 9), NOTE, TOWN, WEEK);
        bad(20, "worth", (x, a) -> x.worth(a[0], a[1], a[2]), numbers(9, 0, 9), NOTE, TOWN, WEEK);
        bad(21, "hands", (x, a) -> x.hands(a[0], a[1], a[2]), numbers(9, 0, 0), NOTE, null, to(0, 1));
        edge.promise(21, SENTENCE);
        refused("hands i -2", Due.BAD, x -> x.hands(9, -2, 0));
        refused("hands i MIN", Due.BAD, x -> x.hands(9, MIN, 0));
    }

    private void badTraders() {
        bad(22, "trader", (x, a) -> x.trader(a[0], a[1], a[2]), numbers(3, 5, 77), TRADER, TOWN, to(0, 100));
        bad(23, "pay", (x, a) -> x.pay(a[0], a[1], a[2]), numbers(2, 1, 50), TRADER, TRADER, to(1, 999));
        edge.promise(23, SENTENCE);
        refused("pay alike", Due.BAD, x -> x.pay(2, 2, 50));
        bad(24, "bears", (x, a) -> x.bears(a[0], a[1]), numbers(9, 3), NOTE, WEEK);
        bad(25, "home", (x, a) -> x.home(a[0]), numbers(9), NOTE);
        bad(26, "cut", (x, a) -> x.cut(a[0], a[1]), numbers(13, 0), NOTE, TRADER);
        edge.promise(26, SENTENCE);
        refused("cut for its own TRADER", Due.BAD, x -> x.cut(13, x.told(13, 4)));
        refused("cut for NONE", Due.BAD, x -> x.cut(13, Due.NONE));
        bad(27, "half", (x, a) -> x.half(a[0], a[1], a[2]), numbers(2, 0, 5), NOTE, to(0, 1), TRADER);
    }

    private void badWays() {
        bad(28, "rates", (x, a) -> x.rates(a[0], a[1], a[2]), numbers(0, 6, 0), TOWN, SHEET);
        bad(29, "way", (x, a) -> x.way(a[0], a[1], a[2], a[3], a[4], a[5]), numbers(0, 0, 0, 3, 3, 0), TOWN, SHEET, null, to(1, 8), to(1, 6),
            to(0, 1));
    }

    private void badAsks() {
        bad(30, "kind", (x, a) -> x.kind(a[0]), numbers(9), NOTE);
        bad(31, "as", (x, a) -> x.as(a[0], a[1]), numbers(9, 0), NOTE, to(0, 5));
        bad(32, "ask", (x, a) -> x.ask(a[0], a[1]), numbers(9, 0), NOTE, to(0, 1));
        bad(34, "count", (x, a) -> x.count(a[0]), numbers(9), to(0, 9));
    }

    private void badItems() {
        edge.promise(28, SENTENCE);
        refused("rates with an ITEM of 101", Due.BAD, x -> x.rates(0, 5, 3));
        refused("rates with that ITEM first", Due.BAD, x -> x.rates(0, 5, 4));
        edge.promise(29, SENTENCE);
        refused("way with an ITEM below 0", Due.BAD, x -> x.way(0, 1, 0, 3, 3, 0));
        refused("way with an ITEM of 14", Due.BAD, x -> x.way(0, 5, 0, 8, 3, 1));
        refused("way with a NOTE told twice", Due.BAD, x -> x.way(0, 6, 1, 8, 6, 0));
    }

    private void states() {
        for (int i = 0; i < 4; i++) {
            int note = i;
            edge.promise(24, SENTENCE);
            refused("bears of NOTE " + i + ", which no TRADER has", Due.STATE, x -> x.bears(note, 9));
            edge.promise(25, SENTENCE);
            refused("home of NOTE " + i + ", which no TRADER has", Due.STATE, x -> x.home(note));
            edge.promise(26, SENTENCE);
            refused("cut of NOTE " + i + ", which no TRADER has", Due.STATE, x -> x.cut(note, 0));
        }
        edge.promise(25, SENTENCE);
        refused("home of a GHOST", Due.STATE, x -> x.home(6));
        refused("home of one at a SHUT BANK", Due.STATE, x -> x.home(12));
        edge.promise(26, SENTENCE);
        refused("cut of one that was CUT", Due.STATE, x -> x.cut(4, 0));
        edge.promise(27, SENTENCE);
        refused("half of one at its BANK", Due.STATE, x -> x.half(0, 0, 5));
        refused("half of a LOST one", Due.STATE, x -> x.half(1, 1, 5));
        refused("half of one that was HALVED", Due.STATE, x -> x.half(4, 1, 5));
        refused("half that is LOST", Due.STATE, x -> x.half(3, 0, 5));
        refused("half that is LOST, again", Due.STATE, x -> x.half(3, 0, Due.NONE));
        refused("half of one never CUT", Due.STATE, x -> x.half(13, 0, Due.NONE));
    }

    private void findings() {
        edge.promise(2, SENTENCE);
        refused("sheet SIZE", Due.SIZE, x -> x.sheet(0, 0, -1));
        refused("sheet SIZE of a missing one", Due.SIZE, x -> x.sheet(7, 0, MIN));
        edge.promise(3, SENTENCE);
        refused("set NULL", Due.NULL, x -> x.set(7, 0, 1));
        refused("set PLACE", Due.PLACE, x -> x.set(0, 12, 1));
        refused("set PLACE below", Due.PLACE, x -> x.set(0, -1, 1));
        refused("set PLACE of an empty one", Due.PLACE, x -> x.set(3, 0, 1));
        edge.promise(4, SENTENCE);
        refused("copy NULL", Due.NULL, x -> x.copy(0, 0, 7, 0, 1));
        refused("copy NULL from", Due.NULL, x -> x.copy(4, 0, 0, 0, 1));
        refused("copy STORE", Due.STORE, x -> x.copy(0, 0, 1, 0, 3));
        refused("copy PLACE of i", Due.PLACE, x -> x.copy(0, 10, 6, 0, 3));
        refused("copy PLACE of j", Due.PLACE, x -> x.copy(0, 0, 6, 58, 3));
        refused("copy PLACE of n", Due.PLACE, x -> x.copy(0, 0, 6, 0, -1));
        refused("copy PLACE onto itself", Due.PLACE, x -> x.copy(0, 0, 0, 1, 12));
        edge.promise(5, SENTENCE);
        refused("drop NULL", Due.NULL, x -> x.drop(7));
        edge.promise(28, SENTENCE);
        refused("rates NULL", Due.NULL, x -> x.rates(0, 7, 0));
        refused("rates PLACE", Due.PLACE, x -> x.rates(0, 6, 53));
        refused("rates PLACE below", Due.PLACE, x -> x.rates(0, 6, -1));
        edge.promise(29, SENTENCE);
        refused("way NULL", Due.NULL, x -> x.way(0, 7, 0, 3, 3, 0));
        refused("way PLACE", Due.PLACE, x -> x.way(0, 0, 10, 3, 3, 0));
        refused("way PLACE below", Due.PLACE, x -> x.way(0, 0, -1, 3, 3, 1));
        edge.promise(31, SENTENCE);
        refused("as KIND", Due.KIND, x -> x.as(9, 5));
    }

    private void fulls() {
        edge.promise(8, SENTENCE);
        refused("bank FULL", Due.FULL, x -> x.bank(0, 5, 5));
        refused("bank BAD of a full one", Due.BAD, x -> x.bank(6, 5, 5));
        edge.promise(12, SENTENCE);
        refused("week 300 in the last one", Due.BAD, x -> x.week(300));
        refused("week 298 in the last one", Due.BAD, x -> x.week(298));
        edge.promise(13, SENTENCE);
        refused("feed FULL", Due.FULL, x -> x.feed(0x3bL, 1));
        refused("feed FULL of eight", Due.FULL, x -> x.feed(-1L, 8));
        edge.promise(17, SENTENCE);
        refused("note FULL", Due.FULL, x -> x.note(0, 5, 5, 0, 0));
        refused("note BAD of a full one", Due.BAD, x -> x.note(8, 5, 5, 0, 0));
        edge.promise(4, SENTENCE);
        refused("copy PLACE of full ones", Due.PLACE, x -> x.copy(0, 0, 1, 0, 61));
        edge.promise(2, SENTENCE);
        refused("sheet BAD of a full one", Due.BAD, x -> x.sheet(0, 2, 61));
    }
}
