/** Boundary cases of promises 8 to 11. */
final class BankEdges {
    private final Edge edge;

    BankEdges(Edge edge) {
        this.edge = edge;
    }

    void run() {
        asTold();
        numbers();
        eightBanks();
        house();
        holdsAndNeed();
        holdRefused();
        justEnough();
        shutAndFallen();
        rounds();
        fallsRefused();
    }

    private static NoteCounter banks(int n) {
        NoteCounter x = new NoteCounter();
        for (int i = 0; i < n; i++) {
            x.bank(i % 6, 10 + i, i);
        }
        return x;
    }

    private static int tells(int town, int gold, int plate, int what) {
        NoteCounter x = new NoteCounter();
        x.bank(town, gold, plate);
        return x.house(0, what);
    }

    private void asTold() {
        edge.promise(8, "BANKS 0 .. 7 (8 at most), as they are told: a TOWN, GOLD (0 to 99999), a PLATE (8 marks, bits 0 to 255).");
        edge.range("TOWN", 0, 5, 0, v -> new NoteCounter().bank(v, 1, 1));
        edge.range("GOLD", 0, 99999, 0, v -> new NoteCounter().bank(1, v, 1));
        edge.range("PLATE", 0, 255, 0, v -> new NoteCounter().bank(1, 1, v));
        edge.taken("TOWN as told", 0, 5, v -> tells(v, 1, 1, 0), v -> v);
        edge.taken("GOLD as told", 0, 99999, v -> tells(1, v, 1, 1), v -> v);
        edge.taken("PLATE as told", 0, 255, v -> tells(1, 1, v, 2), v -> v);
        edge.is("a refused one is not there", Due.BAD, tells(1, 100000, 1, 0));
        NoteCounter x = banks(8);
        x.bank(0, 0, 0);
        edge.is("8 at most", 8, x.count(1));
        edge.is("there is no ninth", Due.BAD, x.house(8, 0));
    }

    private void numbers() {
        edge.promise(8, "Numbers go from 0 on.");
        NoteCounter x = new NoteCounter();
        for (int i = 0; i < 8; i++) {
            edge.is("one that is refused takes no number", Due.BAD, x.bank(6, 0, 0));
            edge.is("the next BANK", i, x.bank(0, 0, 0));
        }
    }

    private void eightBanks() {
        edge.promise(8, "A BANK: its number. BAD; FULL: 8.");
        edge.is("the eighth", 7, banks(7).bank(5, 99999, 255));
        NoteCounter x = banks(8);
        edge.is("the ninth", Due.FULL, x.bank(0, 0, 0));
        edge.is("again", Due.FULL, x.bank(5, 99999, 255));
        edge.is("TOWN ahead of FULL", Due.BAD, x.bank(6, 0, 0));
        edge.is("GOLD ahead of FULL", Due.BAD, x.bank(0, 100000, 0));
        edge.is("GOLD below ahead of FULL", Due.BAD, x.bank(0, -1, 0));
        edge.is("PLATE ahead of FULL", Due.BAD, x.bank(0, 0, 256));
        edge.is("PLATE below ahead of FULL", Due.BAD, x.bank(0, 0, -1));
        edge.is("the last is as it was", 17, x.house(7, 1));
        edge.is("the first is as it was", 10, x.house(0, 1));
    }

    private void house() {
        edge.promise(9, "Of a BANK: 0 TOWN, 1 GOLD, 2 PLATE, 3 whether it is SHUT (1, 0), 4 NEED. BAD.");
        int[] want = {4, 11, 6, 0, 0};
        NoteCounter x = new NoteCounter();
        x.bank(4, 11, 6);
        edge.range("what", 0, 4, v -> x.house(0, v), v -> want[v]);
        for (int what = 0; what < 5; what++) {
            edge.is("what " + what, want[what], x.house(0, what));
        }
        edge.range("BANK, of one", 0, 0, 11, v -> x.house(v, 1));
        edge.range("BANK, of eight", 0, 7, v -> banks(8).house(v, 1), v -> 10 + v);
        edge.is("BANK, of none", Due.BAD, new NoteCounter().house(0, 0));
        x.hold(0, 0, 99999);
        edge.is("the most NEED", 99999, x.house(0, 4));
        x.note(0, 11, 6, 0, 0);
        x.note(0, 1, 6, 0, 0);
        x.home(0);
        edge.is("GOLD to the last", 0, x.house(0, 1));
        edge.is("not SHUT by that", 0, x.house(0, 3));
        x.home(1);
        edge.is("SHUT", 1, x.house(0, 3));
        edge.is("BAD of a SHUT one", Due.BAD, x.house(0, 5));
    }

    private static int heldThen(int bank, int other, int v) {
        NoteCounter x = banks(8);
        x.hold(bank, other, 3);
        x.hold(bank, other, v);
        return x.hold(bank, other, 0);
    }

    private void holdsAndNeed() {
        edge.promise(10, "HOLDS: a BANK may hold so much (0 to 9999) of another one's notes, and must have so much to stay open "
            + "(NEED, 0 to 99999; 0).");
        edge.range("of another one's", 0, 9999, 0, v -> banks(2).hold(0, 1, v));
        edge.range("NEED", 0, 99999, 0, v -> banks(2).hold(1, 1, v));
        edge.taken("held then", 0, 9999, v -> heldThen(0, 7, v), v -> v);
        edge.taken("needed then", 0, 99999, v -> heldThen(7, 7, v), v -> v);
        edge.is("10000 changes nothing", 3, heldThen(0, 7, 10000));
        edge.is("-1 changes nothing", 3, heldThen(0, 7, -1));
        edge.is("a NEED of 100000 changes nothing", 3, heldThen(7, 7, 100000));
        edge.is("a NEED of -1 changes nothing", 3, heldThen(7, 7, -1));
        NoteCounter x = banks(8);
        for (int bank = 0; bank < 8; bank++) {
            for (int other = 0; other < 8; other++) {
                edge.is("0 at first " + bank + " " + other, 0, x.hold(bank, other, 10 * bank + other));
            }
        }
        for (int bank = 0; bank < 8; bank++) {
            for (int other = 0; other < 8; other++) {
                edge.is("each has a place of its own " + bank + " " + other, 10 * bank + other, x.hold(bank, other, 0));
            }
        }
    }

    private void holdRefused() {
        edge.promise(10, "A BANK HOLDS so much of another one's notes (alike: that is its NEED, 0 to 99999): what it was. BAD.");
        edge.range("BANK, of two", 0, 1, 0, v -> banks(2).hold(v, 0, 5));
        edge.range("other, of two", 0, 1, 0, v -> banks(2).hold(0, v, 5));
        edge.range("BANK, of eight", 0, 7, 0, v -> banks(8).hold(v, 3, 5));
        edge.range("other, of eight", 0, 7, 0, v -> banks(8).hold(3, v, 5));
        edge.is("alike, but not there", Due.BAD, banks(2).hold(2, 2, 0));
        edge.is("alike, of none", Due.BAD, new NoteCounter().hold(0, 0, 0));
        edge.is("10000 is a NEED", 0, banks(2).hold(1, 1, 10000));
        edge.is("and not held", Due.BAD, banks(2).hold(1, 0, 10000));
        NoteCounter x = banks(2);
        edge.is("what it was", 0, x.hold(0, 1, 9999));
        edge.is("then", 9999, x.hold(0, 1, 0));
        edge.is("NEED beside it", 0, x.hold(0, 0, 99999));
        edge.is("is not held", 0, x.hold(0, 1, 0));
    }

    private static int fallsOfTwo(int gold, int held, int need) {
        NoteCounter x = new NoteCounter();
        x.bank(0, gold, 0);
        x.bank(0, 0, 0);
        x.hold(0, 1, held);
        x.hold(0, 0, need);
        return x.falls(0);
    }

    private static final String FALLS = "FALLS: BANKS that are SHUT; then, round by round, all at once, each falls of which GOLD and "
        + "what it HOLDS of others that are not fallen, together, is less than its NEED, till a round lets none fall: the set, and "
        + "how many rounds let some fall.";

    private void justEnough() {
        edge.promise(11, FALLS);
        edge.is("no BANKS", 0, new NoteCounter().falls(0));
        edge.is("no BANKS, no rounds", 0, new NoteCounter().falls(1));
        edge.is("no GOLD, no NEED", 0, fallsOfTwo(0, 0, 0));
        edge.is("no GOLD, the least NEED", 1, fallsOfTwo(0, 0, 1));
        edge.is("GOLD as NEED", 0, fallsOfTwo(50, 0, 50));
        edge.is("one less", 1, fallsOfTwo(49, 0, 50));
        edge.is("together as NEED", 0, fallsOfTwo(40, 10, 50));
        edge.is("together one less", 1, fallsOfTwo(40, 9, 50));
        edge.is("the most NEED, the most GOLD", 0, fallsOfTwo(99999, 0, 99999));
        edge.is("the most NEED, one less", 1, fallsOfTwo(99998, 0, 99999));
        edge.is("the most NEED, the most held", 0, fallsOfTwo(90000, 9999, 99999));
        edge.is("all the most", 0, fallsOfTwo(99999, 9999, 99999));
        NoteCounter x = banks(8);
        for (int other = 0; other < 7; other++) {
            x.hold(7, other, 9999);
        }
        x.hold(7, 7, 7 * 9999 + 17);
        edge.is("of seven others, as NEED", 0, x.falls(0));
        x.hold(7, 7, 7 * 9999 + 18);
        edge.is("of seven others, one less", 128, x.falls(0));
        edge.is("in one round", 1, x.falls(1));
    }

    /** BANKS 0 and 1 without GOLD, BANK 0 SHUT by a NOTE that was sent home. */
    private static NoteCounter oneShut() {
        NoteCounter x = new NoteCounter();
        x.bank(0, 0, 0);
        x.bank(0, 0, 0);
        x.note(0, 1, 0, 0, 0);
        x.home(0);
        return x;
    }

    private void shutAndFallen() {
        edge.promise(11, FALLS);
        NoteCounter x = oneShut();
        edge.is("SHUT, without a NEED", 1, x.falls(0));
        edge.is("by no round", 0, x.falls(1));
        x.hold(1, 0, 5);
        x.hold(1, 1, 5);
        edge.is("what it HOLDS of a SHUT one is nothing", 3, x.falls(0));
        edge.is("by one round", 1, x.falls(1));
        x.hold(0, 0, 99999);
        edge.is("a SHUT one does not fall anew", 1, x.falls(1));
        x.hold(1, 1, 0);
        edge.is("what has no NEED does not fall", 1, x.falls(0));
        NoteCounter rich = new NoteCounter();
        rich.bank(0, 50, 0);
        rich.note(0, 51, 0, 0, 0);
        rich.home(0);
        edge.is("SHUT with GOLD", 1, rich.falls(0));
        NoteCounter fallen = banks(2);
        fallen.hold(0, 0, 11);
        edge.is("what falls", 1, fallen.falls(0));
        edge.is("is not SHUT by it", 0, fallen.house(0, 3));
        edge.is("none is", 0, fallen.count(2));
        fallen.hold(0, 0, 10);
        edge.is("and stands again", 0, fallen.falls(0));
    }

    /** Each of n BANKS needs what it HOLDS of the next one. */
    private static NoteCounter row(int n) {
        NoteCounter x = new NoteCounter();
        for (int i = 0; i < n; i++) {
            x.bank(0, 0, 0);
        }
        for (int i = 0; i + 1 < n; i++) {
            x.hold(i, i + 1, 9999);
            x.hold(i, i, 9999);
        }
        return x;
    }

    private void rounds() {
        edge.promise(11, FALLS);
        NoteCounter eight = row(8);
        edge.is("a row that stands", 0, eight.falls(0));
        edge.is("no round", 0, eight.falls(1));
        eight.hold(7, 7, 1);
        edge.is("a row that falls", 255, eight.falls(0));
        edge.is("as many rounds as BANKS", 8, eight.falls(1));
        eight.hold(3, 3, 9998);
        eight.hold(3, 4, 9998);
        edge.is("the same by less", 8, eight.falls(1));
        eight.hold(3, 3, 0);
        edge.is("the row is cut", 0b11110000, eight.falls(0));
        edge.is("four rounds", 4, eight.falls(1));
        NoteCounter shut = row(8);
        shut.note(7, 1, 0, 0, 0);
        shut.home(0);
        edge.is("from a SHUT one on", 255, shut.falls(0));
        edge.is("seven rounds", 7, shut.falls(1));
        NoteCounter all = banks(8);
        for (int i = 0; i < 8; i++) {
            all.hold(i, (i + 1) % 8, 9999);
            all.hold(i, i, 99999);
        }
        edge.is("all at once", 255, all.falls(0));
        edge.is("in one round", 1, all.falls(1));
        NoteCounter once = new NoteCounter();
        once.bank(0, 0, 0);
        once.bank(0, 0, 0);
        once.hold(0, 0, 1);
        once.hold(1, 0, 1);
        once.hold(1, 1, 1);
        edge.is("what falls in a round counts for that round still", 2, once.falls(1));
        NoteCounter ring = new NoteCounter();
        ring.bank(0, 0, 0);
        ring.bank(0, 0, 0);
        ring.hold(0, 1, 5);
        ring.hold(1, 0, 5);
        ring.hold(0, 0, 5);
        ring.hold(1, 1, 5);
        edge.is("two that hold each other", 0, ring.falls(0));
    }

    private void fallsRefused() {
        edge.promise(11, "FALLS: the set (what = 0; bits), how many rounds (1). BAD.");
        edge.range("what, of none", 0, 1, 0, v -> new NoteCounter().falls(v));
        NoteCounter x = row(8);
        x.hold(7, 7, 1);
        edge.range("what", 0, 1, x::falls, v -> v == 0 ? 255 : 8);
        NoteCounter last = banks(8);
        last.hold(7, 7, 18);
        edge.is("the bit of the last BANK", 128, last.falls(0));
        last.hold(0, 0, 11);
        edge.is("and of the first", 129, last.falls(0));
    }
}
