/** Boundary cases of promises 22 to 27. */
final class TraderEdges {
    private final Edge edge;

    TraderEdges(Edge edge) {
        this.edge = edge;
    }

    void run() {
        atFirst();
        traderRefused();
        inTheHundred();
        tillTheSum();
        worstFirst();
        takersTown();
        whatIsNotHandedOn();
        payRefused();
        bearsByWeeks();
        bearsAllTheWay();
        bearsRefused();
        homeByMarks();
        homeByGold();
        homeRefused();
        cut();
        cutRefused();
        halves();
        joinedHands();
        lostHalves();
        wouldPay();
        halfRefused();
    }

    /** A BANK in TOWN 0 with 1000 of GOLD and a NOTE of 10 with TRADER 0. */
    private static NoteCounter one() {
        return notes(10);
    }

    private static NoteCounter notes(int... sums) {
        NoteCounter x = new NoteCounter();
        x.bank(0, 1000, 0);
        for (int sum : sums) {
            x.note(0, sum, 0, 0, 0);
        }
        return x;
    }

    /** What is handed of one NOTE that is worth so much in the hundred, to a TRADER who takes so much. */
    private static int handed(int worth, int takes) {
        NoteCounter x = one();
        Due.read(x, "week 0 off 0 " + (100 - worth) + ";");
        if (takes >= 0) {
            x.trader(1, 0, takes);
        }
        return x.pay(0, 1, 10);
    }

    private void atFirst() {
        edge.promise(22, "TRADERS 0 .. 7: each in a TOWN (0), takes what is worth so much in the hundred or more (0 to 100; 50).");
        edge.range("TRADER", 0, 7, 1, v -> new NoteCounter().trader(v, 0, 0));
        edge.range("TOWN", 0, 5, 1, v -> new NoteCounter().trader(0, v, 0));
        edge.range("takes", 0, 100, 1, v -> new NoteCounter().trader(0, 0, v));
        edge.is("at first takes 50", 10, handed(50, -1));
        edge.is("at first does not take 49", 0, handed(49, -1));
        edge.is("takes 0: what is worth nothing", 10, handed(0, 0));
        edge.is("takes 1: what is worth 1", 10, handed(1, 1));
        edge.is("takes 1: not what is worth nothing", 0, handed(0, 1));
        edge.is("takes 100: what is worth 100", 10, handed(100, 100));
        edge.is("takes 100: not what is worth 99", 0, handed(99, 100));
        for (int trader = 1; trader < 8; trader++) {
            edge.is("each one takes 50 at first, in TOWN 0: " + trader, 10, one().pay(0, trader, 1));
        }
        NoteCounter far = new NoteCounter();
        far.bank(5, 0, 0);
        far.note(0, 10, 0, 0, 0);
        edge.is("in TOWN 0 at first: no way from there", 0, far.pay(0, 1, 1));
        far.trader(1, 5, 50);
        edge.is("in TOWN 5 then", 10, far.pay(0, 1, 1));
    }

    private void traderRefused() {
        edge.promise(22, "A TRADER is in a TOWN and takes so much in the hundred: 1. BAD.");
        NoteCounter x = one();
        Due.read(x, "week 0 off 0 40;");
        x.road(0, 5, 100);
        edge.is("told", 1, x.trader(1, 0, 60));
        edge.is("told the same again", 1, x.trader(1, 0, 60));
        edge.is("TOWN 6, takes 100", Due.BAD, x.trader(1, 6, 100));
        edge.is("TOWN 5, takes 101", Due.BAD, x.trader(1, 5, 101));
        edge.is("TOWN 5, takes -1", Due.BAD, x.trader(1, 5, -1));
        edge.is("takes 60 in TOWN 0 still", 10, x.pay(0, 1, 1));
        edge.is("back", 10, x.pay(1, 0, 1));
        x.trader(1, 5, 60);
        x.week(1);
        edge.is("in TOWN 5 it is worth 55", 0, x.pay(0, 1, 1));
        x.trader(1, 5, 55);
        edge.is("takes 55", 10, x.pay(0, 1, 1));
    }

    private void inTheHundred() {
        edge.promise(23, "IN THE HUNDRED: WORTH by the sum, cut.");
        for (int sum : new int[] {1, 3, 99, 100}) {
            NoteCounter x = notes(sum);
            Due.read(x, "week 0 off 0 33;");
            x.trader(1, 0, 68);
            edge.is("67 of a NOTE of " + sum + " is less than 68", 0, x.pay(0, 1, 1));
            x.trader(1, 0, 67);
            edge.is("67 of a NOTE of " + sum, sum, x.pay(0, 1, 1));
        }
        NoteCounter x = notes(100, 1);
        edge.is("not by the sum: the least number first", 100, x.pay(0, 1, 1));
    }

    private static final String PAYS = "PAYS: one TRADER pays another one a sum (1 to 999), in THE WEEK: of NOTES that the payer has (none HALVED, "
        + "none with 12 HANDS) and the other one takes (IN THE HUNDRED in the taker's TOWN) that with the least IN THE HUNDRED in the "
        + "payer's TOWN, of several the least number, is handed on, again and again, till the sums handed are that sum or more together, "
        + "or there is none.";

    private static NoteCounter many(int notes, int sum) {
        NoteCounter x = new NoteCounter();
        x.bank(0, 0, 0);
        for (int i = 0; i < notes; i++) {
            x.note(0, sum, 0, 0, 0);
        }
        return x;
    }

    private void tillTheSum() {
        edge.promise(23, PAYS);
        edge.range("sum", 1, 999, 10, v -> one().pay(0, 1, v));
        edge.is("no NOTES", 0, new NoteCounter().pay(0, 1, 1));
        edge.is("just the sum", 10, many(3, 10).pay(0, 1, 10));
        edge.is("one more than a NOTE", 20, many(3, 10).pay(0, 1, 11));
        edge.is("two", 20, many(3, 10).pay(0, 1, 20));
        edge.is("one more than two", 30, many(3, 10).pay(0, 1, 21));
        edge.is("one more than all", 30, many(3, 10).pay(0, 1, 31));
        edge.is("the least sum", 10, many(3, 10).pay(0, 1, 1));
        edge.is("24 NOTES of 1", 24, many(24, 1).pay(0, 1, 24));
        edge.is("24 NOTES of 1, for more", 24, many(24, 1).pay(0, 1, 999));
        edge.is("the most: ten of 100", 1000, many(24, 100).pay(0, 1, 999));
        edge.is("nine of 100", 900, many(24, 100).pay(0, 1, 900));
        edge.is("ten of 100 for 901", 1000, many(24, 100).pay(0, 1, 901));
        NoteCounter x = many(3, 10);
        x.week(299);
        x.pay(0, 7, 11);
        edge.is("the first went", 7, x.told(0, 4));
        edge.is("the second went", 7, x.told(1, 4));
        edge.is("the third stays", 0, x.told(2, 4));
        edge.is("in THE WEEK", 299, x.hands(1, 1, 1));
        edge.is("one HAND of what stays", 1, x.hands(2, -1, 0));
        edge.is("what is taken goes back", 20, x.pay(7, 0, 999));
    }

    private void worstFirst() {
        edge.promise(23, PAYS);
        NoteCounter x = new NoteCounter();
        for (int bank = 0; bank < 3; bank++) {
            x.bank(0, 0, 0);
        }
        Due.read(x, "week 0 off 0 1 off 1 2 off 2 1;");
        x.note(0, 1, 0, 0, 0);
        x.note(2, 2, 0, 0, 0);
        x.note(1, 4, 0, 0, 0);
        x.note(1, 8, 0, 0, 0);
        edge.is("the least in the hundred", 4, x.pay(0, 1, 1));
        edge.is("then the other one that is as bad", 8, x.pay(0, 1, 1));
        edge.is("then the least number of the next", 1, x.pay(0, 1, 1));
        edge.is("then the last", 2, x.pay(0, 1, 1));
        edge.is("then none", 0, x.pay(0, 1, 1));
        NoteCounter last = many(24, 1);
        last.bank(0, 0, 0);
        edge.is("the least number of all", 1, last.pay(0, 1, 1));
        edge.is("is 0", 1, last.told(0, 4));
        edge.is("the last stays", 0, last.told(23, 4));
    }

    /** BANK 0 in TOWN 0, BANK 1 in TOWN 1, 400 miles apart: 20 in the hundred. */
    private static NoteCounter twoTowns() {
        NoteCounter x = new NoteCounter();
        x.road(0, 1, 400);
        x.bank(0, 0, 0);
        x.bank(1, 0, 0);
        x.note(0, 1, 0, 0, 0);
        x.note(1, 2, 0, 0, 0);
        return x;
    }

    private void takersTown() {
        edge.promise(23, PAYS);
        NoteCounter x = twoTowns();
        x.trader(1, 1, 81);
        edge.is("taken by the taker's TOWN", 2, x.pay(0, 1, 999));
        NoteCounter y = twoTowns();
        y.trader(1, 1, 80);
        edge.is("the worst by the payer's TOWN", 2, y.pay(0, 1, 1));
        edge.is("both", 1, y.pay(0, 1, 999));
        NoteCounter z = twoTowns();
        z.trader(0, 1, 100);
        z.trader(1, 0, 0);
        edge.is("the worst where the payer is now", 1, z.pay(0, 1, 1));
        edge.is("what the payer takes is no matter", 2, z.pay(0, 1, 1));
        NoteCounter week = one();
        Due.read(week, "week 5 off 0 60;");
        week.week(4);
        edge.is("as KNOWN in THE WEEK", 10, week.pay(0, 1, 1));
        week.week(5);
        edge.is("as KNOWN in the next", 0, week.pay(1, 0, 1));
    }

    private void whatIsNotHandedOn() {
        edge.promise(23, PAYS);
        NoteCounter x = notes(1, 2, 4, 8, 16);
        for (int trader = 0; trader < 8; trader++) {
            x.trader(trader, 0, 0);
        }
        x.note(0, 32, 1, 0, 0);
        x.home(0);
        x.home(5);
        x.cut(1, 7);
        x.cut(2, 7);
        x.half(2, 1, Due.NONE);
        edge.is("neither at a BANK, nor LOST, nor HALVED", 24, x.pay(0, 1, 999));
        edge.is("nor of the TRADER with half of it", 0, x.pay(7, 1, 999));
        edge.is("another one's", 0, x.pay(2, 3, 999));
        x.half(1, 1, 0);
        edge.is("HALVED no more", 2, x.pay(0, 1, 999));
        NoteCounter full = notes(1, 2);
        for (int hand = 1; hand < 12; hand++) {
            full.pay((hand - 1) % 2, hand % 2, 1);
        }
        edge.is("12 HANDS", 12, full.hands(0, -1, 0));
        edge.is("one with 12 stays", 0, full.pay(1, 0, 999));
        edge.is("one with fewer goes", 2, full.pay(0, 1, 999));
        edge.is("and comes back", 2, full.pay(1, 0, 999));
    }

    private void payRefused() {
        edge.promise(23, "PAYS: what was handed. BAD (alike, too).");
        edge.range("from", 0, 7, v -> one().pay(v, 3, 1), v -> v == 0 ? 10 : 0);
        edge.range("to", 0, 7, v -> handedOn().pay(3, v, 1), v -> 10);
        for (int trader = 0; trader < 8; trader++) {
            edge.is("alike " + trader, Due.BAD, one().pay(trader, trader, 1));
        }
        edge.is("alike, no TRADERS", Due.BAD, one().pay(8, 8, 1));
        edge.is("alike, and the sum", Due.BAD, one().pay(0, 0, 0));
        NoteCounter x = one();
        x.pay(0, 1, 0);
        x.pay(0, 1, 1000);
        x.pay(0, 8, 1);
        x.pay(0, 0, 1);
        edge.is("it stays", 0, x.told(0, 4));
        edge.is("no HAND more", 1, x.hands(0, -1, 0));
    }

    private static NoteCounter handedOn() {
        NoteCounter x = one();
        x.pay(0, 3, 1);
        return x;
    }

    private static final String BEARS = "BEARS, for a law of w weeks (0 to 299): from the last HAND of the NOTE back to the one ahead, as long as the WEEK "
        + "from which the later one had it is no more than w ahead of THE WEEK: the TRADER who is come to.";

    private void bearsByWeeks() {
        edge.promise(24, BEARS);
        NoteCounter x = one();
        x.week(10);
        x.pay(0, 1, 1);
        edge.is("this WEEK, no weeks", 0, x.bears(0, 0));
        x.week(11);
        edge.is("a WEEK ago, no weeks", 1, x.bears(0, 0));
        edge.is("a WEEK ago, one week", 0, x.bears(0, 1));
        x.pay(1, 2, 1);
        edge.is("back by one", 1, x.bears(0, 0));
        edge.is("back by two", 0, x.bears(0, 1));
        x.week(20);
        edge.is("9 weeks ago, 8", 2, x.bears(0, 8));
        edge.is("9 weeks ago, 9", 1, x.bears(0, 9));
        edge.is("10 weeks ago, 10", 0, x.bears(0, 10));
        x.pay(2, 3, 1);
        x.week(29);
        edge.is("the later one bars the way", 3, x.bears(0, 8));
        edge.is("the earlier one bars the way", 2, x.bears(0, 17));
        edge.is("both are near enough", 1, x.bears(0, 18));
        edge.is("all are", 0, x.bears(0, 19));
        NoteCounter old = one();
        old.pay(0, 1, 1);
        old.week(299);
        edge.is("299 weeks ago, 298", 1, old.bears(0, 298));
        edge.is("299 weeks ago, 299", 0, old.bears(0, 299));
    }

    private void bearsAllTheWay() {
        edge.promise(24, BEARS);
        NoteCounter x = one();
        edge.is("one HAND", 0, x.bears(0, 0));
        edge.is("one HAND, all weeks", 0, x.bears(0, 299));
        x.week(299);
        edge.is("one HAND, long ago", 0, x.bears(0, 0));
        NoteCounter full = one();
        for (int hand = 1; hand < 12; hand++) {
            full.week(hand);
            full.pay((hand - 1) % 8, hand % 8, 1);
        }
        for (int weeks = 0; weeks < 11; weeks++) {
            edge.is("12 HANDS, " + weeks + " weeks", (10 - weeks) % 8, full.bears(0, weeks));
        }
        edge.is("12 HANDS, 299 weeks", 0, full.bears(0, 299));
        edge.is("nothing is changed by it", 12, full.hands(0, -1, 0));
        full.cut(0, 7);
        full.half(0, 0, 7);
        edge.is("with a TRADER who is no HAND", 7, full.told(0, 4));
        edge.is("from the last HAND that is kept", 2, full.bears(0, 0));
    }

    private void bearsRefused() {
        edge.promise(24, "BEARS. BAD; STATE: no TRADER has it.");
        edge.range("weeks", 0, 299, 0, v -> one().bears(0, v));
        edge.range("NOTE", 0, 0, 0, v -> one().bears(v, 0));
        edge.range("NOTE, of 24", 0, 23, 0, v -> many(24, 1).bears(v, 0));
        NoteCounter x = gone();
        for (int note = 0; note < 4; note++) {
            edge.is("no TRADER has " + note, Due.STATE, x.bears(note, 0));
            edge.is("BAD ahead of STATE " + note, Due.BAD, x.bears(note, 300));
            edge.is("BAD below ahead of STATE " + note, Due.BAD, x.bears(note, -1));
        }
        edge.is("NOTE, of none", Due.BAD, new NoteCounter().bears(0, 0));
        NoteCounter ghost = new NoteCounter();
        ghost.note(7, 1, 0, 0, 5);
        edge.is("a GHOST has HANDS, too", 5, ghost.bears(0, 0));
    }

    /** NOTES at their BANK, LOST, HALVED, and HALVED with one half LOST. */
    private static NoteCounter gone() {
        NoteCounter x = new NoteCounter();
        x.bank(0, 1000, 0);
        x.note(0, 10, 0, 0, 2);
        x.note(0, 11, 1, 0, 2);
        x.note(0, 12, 0, 0, 2);
        x.note(0, 13, 0, 0, 2);
        x.home(0);
        x.home(1);
        x.cut(2, 3);
        x.cut(3, 4);
        x.half(3, 0, Due.NONE);
        return x;
    }

    private static final String HOME = "HOME: a NOTE that a TRADER has goes to its BANK: if some mark (WORN or not) is unlike the PLATE, it is LOST, nothing is "
        + "paid; else it is at its BANK, which pays the sum of its GOLD, if it is not SHUT and has so much; if it has not, it is SHUT from "
        + "then on and pays nothing.";

    private static NoteCounter sent(int gold, int sum, int marks, int worn) {
        NoteCounter x = new NoteCounter();
        x.bank(0, gold, 0b10100101);
        x.note(0, sum, marks, worn, 0);
        x.note(0, 1, 0b10100101, 0, 0);
        return x;
    }

    private void homeByMarks() {
        edge.promise(25, HOME);
        int plate = 0b10100101;
        for (int bit = 0; bit < 8; bit++) {
            int unlike = plate ^ 1 << bit;
            edge.is("unlike in " + bit, 0, sent(9, 5, unlike, 0).home(0));
            NoteCounter x = sent(9, 5, unlike, 255);
            edge.is("unlike in " + bit + ", WORN", 0, x.home(0));
            edge.is("is LOST", 1, x.told(0, 6));
            edge.is("is not at its BANK", 0, x.told(0, 5));
            edge.is("GOLD is as it was", 9, x.house(0, 1));
        }
        NoteCounter x = sent(9, 5, plate, 255);
        edge.is("like, all WORN", 5, x.home(0));
        edge.is("is at its BANK", 1, x.told(0, 5));
        NoteCounter poor = sent(0, 5, plate ^ 1, 0);
        edge.is("unlike, of a BANK without GOLD", 0, poor.home(0));
        edge.is("that is not SHUT by it", 0, poor.house(0, 3));
    }

    private void homeByGold() {
        edge.promise(25, HOME);
        int plate = 0b10100101;
        NoteCounter just = sent(100, 100, plate, 0);
        edge.is("just the GOLD", 100, just.home(0));
        edge.is("none is left", 0, just.house(0, 1));
        edge.is("not SHUT", 0, just.house(0, 3));
        edge.is("then there is none", 0, just.home(1));
        edge.is("SHUT from then on", 1, just.house(0, 3));
        edge.is("it is at its BANK all the same", 1, just.told(1, 5));
        NoteCounter less = sent(99, 100, plate, 0);
        edge.is("one less", 0, less.home(0));
        edge.is("SHUT", 1, less.house(0, 3));
        edge.is("its GOLD stays", 99, less.house(0, 1));
        edge.is("SHUT, though it has so much", 0, less.home(1));
        edge.is("its GOLD stays still", 99, less.house(0, 1));
        edge.is("at its BANK", 1, less.told(1, 5));
        NoteCounter most = sent(99999, 100, plate, 0);
        most.home(0);
        edge.is("of the most GOLD", 99899, most.house(0, 1));
        less.note(0, 1, plate ^ 128, 0, 0);
        less.home(2);
        edge.is("unlike, at a SHUT BANK: LOST", 1, less.told(2, 6));
        NoteCounter far = new NoteCounter();
        far.bank(5, 9, 0);
        far.note(0, 9, 0, 0, 0);
        edge.is("without a way, too", 9, far.home(0));
    }

    private void homeRefused() {
        edge.promise(25, "HOME: what is paid. BAD; STATE: no TRADER has it (HALVED, too), or it is a GHOST.");
        edge.range("NOTE", 0, 0, 10, v -> one().home(v));
        edge.range("NOTE, of 24", 0, 23, 0, v -> many(24, 1).home(v));
        edge.is("NOTE, of none", Due.BAD, new NoteCounter().home(0));
        for (int note = 0; note < 4; note++) {
            edge.is("no TRADER has " + note, Due.STATE, gone().home(note));
        }
        NoteCounter ghost = new NoteCounter();
        ghost.note(0, 10, 0, 0, 4);
        edge.is("GHOST", Due.STATE, ghost.home(0));
        edge.is("it stays", 4, ghost.told(0, 4));
        ghost.bank(0, 10, 0);
        edge.is("GHOST no more", 10, ghost.home(0));
        NoteCounter joined = one();
        joined.cut(0, 1);
        edge.is("HALVED", Due.STATE, joined.home(0));
        joined.half(0, 1, 0);
        edge.is("HALVED no more", 10, joined.home(0));
        NoteCounter full = one();
        for (int hand = 1; hand < 12; hand++) {
            full.pay((hand - 1) % 2, hand % 2, 1);
        }
        edge.is("with 12 HANDS", 10, full.home(0));
        NoteCounter worn = new NoteCounter();
        worn.bank(0, 10, 0);
        worn.note(0, 10, 1, 0, 0);
        edge.is("FALSE is no GHOST", 0, worn.home(0));
    }

    private void cut() {
        edge.promise(26, "HALVES: a NOTE that a TRADER has may be CUT (once): one half stays, the other one goes to another TRADER: it is HALVED, "
            + "no TRADER has it.");
        NoteCounter x = one();
        edge.is("CUT", 1, x.cut(0, 7));
        edge.is("no TRADER has it", Due.NONE, x.told(0, 4));
        edge.is("none with TRADERS", 0, x.count(5));
        edge.is("one HALVED", 1, x.count(7));
        edge.is("no HAND more", 1, x.hands(0, -1, 0));
        edge.is("half 0 stayed with 0: half 1 to it", 10, x.half(0, 1, 0));
        NoteCounter other = one();
        other.cut(0, 7);
        edge.is("half 1 went to 7: half 0 to it", 10, other.half(0, 0, 7));
        edge.is("a GHOST may be CUT, too", 1, ghost().cut(0, 1));
        NoteCounter full = one();
        for (int hand = 1; hand < 12; hand++) {
            full.pay((hand - 1) % 2, hand % 2, 1);
        }
        edge.is("one with 12 HANDS, too", 1, full.cut(0, 0));
    }

    private static NoteCounter ghost() {
        NoteCounter x = new NoteCounter();
        x.note(7, 9, 0, 0, 0);
        return x;
    }

    private void cutRefused() {
        edge.promise(26, "A NOTE is CUT, the other half goes to another TRADER: 1. BAD (its own TRADER, too); STATE: no TRADER has it, or it was CUT.");
        edge.range("NOTE", 0, 0, 1, v -> one().cut(v, 1));
        edge.range("NOTE, of 24", 0, 23, 1, v -> many(24, 1).cut(v, 1));
        edge.range("to", 0, 7, 1, v -> handedOn().cut(0, v));
        edge.is("to NONE", Due.BAD, one().cut(0, Due.NONE));
        edge.is("its own TRADER", Due.BAD, one().cut(0, 0));
        edge.is("its own TRADER, who is another now", Due.BAD, handedOn().cut(0, 3));
        edge.is("who had it ahead", 1, handedOn().cut(0, 0));
        for (int note = 0; note < 4; note++) {
            edge.is("no TRADER has " + note, Due.STATE, gone().cut(note, 1));
            edge.is("to who had it last " + note, Due.STATE, gone().cut(note, 2));
            edge.is("BAD ahead of STATE " + note, Due.BAD, gone().cut(note, 8));
        }
        NoteCounter x = one();
        x.cut(0, 1);
        x.half(0, 1, 0);
        edge.is("it was CUT", Due.STATE, x.cut(0, 1));
        edge.is("it was CUT, its own TRADER: BAD ahead of STATE", Due.BAD, x.cut(0, 0));
        x.pay(0, 3, 1);
        edge.is("it was CUT, though handed on", Due.STATE, x.cut(0, 1));
        edge.is("its own TRADER now", Due.BAD, x.cut(0, 3));
        edge.is("with that one still", 3, x.told(0, 4));
        NoteCounter refused = one();
        refused.cut(0, 0);
        refused.cut(0, 8);
        edge.is("what was refused did not CUT it", 1, refused.cut(0, 1));
    }

    private static NoteCounter halved(int sum) {
        NoteCounter x = notes(sum);
        x.cut(0, 1);
        return x;
    }

    private void halves() {
        edge.promise(27, "Each half goes from TRADER to TRADER, or is LOST.");
        edge.range("half", 0, 1, 0, v -> halved(9).half(0, v, 5));
        edge.range("to, half 0", 0, 7, 0, v -> halved(9).half(0, 0, v));
        edge.range("to, half 1", 0, 7, v -> halved(9).half(0, 1, v), v -> v == 0 ? 9 : 0);
        edge.is("half 0 to the other's: joined", 9, halved(9).half(0, 0, 1));
        edge.is("half 1 to the first's: joined", 9, halved(9).half(0, 1, 0));
        edge.is("half 0 to who has it", 0, halved(9).half(0, 0, 0));
        edge.is("half 1 to who has it", 0, halved(9).half(0, 1, 1));
        edge.is("half 0 LOST", 4, halved(9).half(0, 0, Due.NONE));
        edge.is("half 1 LOST", 4, halved(9).half(0, 1, Due.NONE));
        NoteCounter x = halved(9);
        for (int to = 2; to < 8; to++) {
            edge.is("half 0 to " + to, 0, x.half(0, 0, to));
        }
        edge.is("half 1 to 7", 9, x.half(0, 1, 7));
        edge.is("7 has it", 7, x.told(0, 4));
    }

    private static final String JOINED = "Are both with one TRADER, it is HALVED no more: that one has it (a HAND more from THE WEEK on, if the last one is another "
        + "and there are fewer than 12).";

    private void joinedHands() {
        edge.promise(27, JOINED);
        NoteCounter back = halved(9);
        back.week(8);
        back.half(0, 1, 0);
        edge.is("the last one is the same", 1, back.hands(0, -1, 0));
        edge.is("from its WEEK still", 0, back.hands(0, 0, 1));
        edge.is("HALVED no more", 0, back.count(7));
        NoteCounter on = halved(9);
        on.week(299);
        on.half(0, 0, 1);
        edge.is("the last one is another", 2, on.hands(0, -1, 0));
        edge.is("that one", 1, on.hands(0, 1, 0));
        edge.is("from THE WEEK on", 299, on.hands(0, 1, 1));
        edge.is("it is handed on again", 9, on.pay(1, 2, 1));
        for (int already = 11; already <= 12; already++) {
            NoteCounter x = notes(9);
            for (int hand = 1; hand < already; hand++) {
                x.pay((hand - 1) % 2, hand % 2, 1);
            }
            x.week(5);
            x.cut(0, 7);
            x.half(0, 0, 7);
            edge.is("with " + already + " HANDS: 7 has it", 7, x.told(0, 4));
            edge.is("with " + already + " HANDS: 12 then", 12, x.hands(0, -1, 0));
            edge.is("with " + already + " HANDS: the twelfth", already == 11 ? 7 : 1, x.hands(0, 11, 0));
            edge.is("with " + already + " HANDS: from which WEEK on", already == 11 ? 5 : 0, x.hands(0, 11, 1));
            edge.is("with " + already + " HANDS: not handed on", 0, x.pay(7, 0, 1));
            edge.is("with " + already + " HANDS: goes home", 9, x.home(0));
        }
    }

    private void lostHalves() {
        edge.promise(27, "Are both LOST, the NOTE is LOST.");
        for (int first = 0; first < 2; first++) {
            NoteCounter x = halved(9);
            edge.is("one, " + first, 4, x.half(0, first, Due.NONE));
            edge.is("it is not LOST yet", 0, x.told(0, 6));
            edge.is("it is HALVED", 1, x.count(7));
            edge.is("the other one to who had that half", 4, x.half(0, 1 - first, first));
            edge.is("that does not join it", Due.NONE, x.told(0, 4));
            edge.is("both", 0, x.half(0, 1 - first, Due.NONE));
            edge.is("LOST", 1, x.told(0, 6));
            edge.is("HALVED no more", 0, x.count(7));
            edge.is("one LOST", 1, x.count(6));
        }
    }

    private void wouldPay() {
        edge.promise(27, "What the BANK would pay: the sum, if it is HALVED no more and not LOST; half the sum, cut, if one half is LOST; else 0.");
        for (int sum : new int[] {1, 2, 3, 99, 100}) {
            edge.is("joined, of " + sum, sum, halved(sum).half(0, 1, 0));
            edge.is("half of " + sum, sum / 2, halved(sum).half(0, 0, Due.NONE));
            edge.is("else, of " + sum, 0, halved(sum).half(0, 0, 5));
        }
        NoteCounter poor = new NoteCounter();
        poor.bank(0, 0, 1);
        poor.note(0, 9, 0, 0, 0);
        poor.cut(0, 1);
        edge.is("whatever the BANK has, and though it is FALSE", 9, poor.half(0, 1, 0));
        NoteCounter ghost = ghost();
        ghost.cut(0, 1);
        edge.is("of a GHOST, too", 9, ghost.half(0, 1, 0));
        NoteCounter x = halved(9);
        x.half(0, 0, Due.NONE);
        x.half(0, 1, 5);
        edge.is("nothing is paid by it", 1000, x.house(0, 1));
    }

    private void halfRefused() {
        edge.promise(27, "A half (0 the one that stayed, 1 the other one) is LOST (to = NONE), or goes to a TRADER: what the BANK would pay then. "
            + "BAD; STATE: the NOTE is not HALVED, or that half is LOST.");
        edge.range("NOTE", 0, 0, 0, v -> halved(9).half(v, 0, 5));
        edge.is("to one below NONE", Due.BAD, halved(9).half(0, 0, Due.NONE - 1));
        edge.is("to one above NONE", Due.BAD, halved(9).half(0, 0, Due.NONE + 1));
        edge.is("NOTE, of none", Due.BAD, new NoteCounter().half(0, 0, 0));
        NoteCounter x = one();
        edge.is("never CUT", Due.STATE, x.half(0, 0, 5));
        edge.is("never CUT, LOST", Due.STATE, x.half(0, 1, Due.NONE));
        edge.is("never CUT, half 2: BAD ahead of STATE", Due.BAD, x.half(0, 2, 5));
        edge.is("never CUT, to 8: BAD ahead of STATE", Due.BAD, x.half(0, 0, 8));
        NoteCounter joined = halved(9);
        joined.half(0, 1, 0);
        edge.is("HALVED no more", Due.STATE, joined.half(0, 1, 5));
        NoteCounter lost = halved(9);
        lost.half(0, 1, Due.NONE);
        edge.is("that half is LOST", Due.STATE, lost.half(0, 1, 5));
        edge.is("that half is LOST, and again", Due.STATE, lost.half(0, 1, Due.NONE));
        edge.is("that half is LOST, to 8: BAD ahead of STATE", Due.BAD, lost.half(0, 1, 8));
        edge.is("the other one goes on", 4, lost.half(0, 0, 5));
        lost.half(0, 0, Due.NONE);
        edge.is("both LOST", Due.STATE, lost.half(0, 0, 5));
        edge.is("at its BANK", Due.STATE, gone().half(0, 0, 5));
        edge.is("LOST at its BANK", Due.STATE, gone().half(1, 0, 5));
    }
}
