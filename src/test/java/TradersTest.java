/** Promises 22 to 27. */
public final class TradersTest {
    private static final Due due = new Due();

    public static void main(String[] args) {
        trader();
        payTheWorstFirst();
        payWhatIsTaken();
        payRefused();
        twelveHands();
        bears();
        bearsRefused();
        home();
        homeOfLittleGold();
        cut();
        halves();
        halfLost();
        halvesJoinedElsewhere();
        halfRefused();
        due.end();
    }

    private static void trader() {
        NoteCounter x = new NoteCounter();
        due.is("told", 1, x.trader(7, 5, 100));
        due.is("told again", 1, x.trader(7, 0, 0));
        due.is("trader 8", Due.BAD, x.trader(8, 0, 0));
        due.is("trader -1", Due.BAD, x.trader(-1, 0, 0));
        due.is("town 6", Due.BAD, x.trader(0, 6, 0));
        due.is("town -1", Due.BAD, x.trader(0, -1, 0));
        due.is("takes 101", Due.BAD, x.trader(0, 0, 101));
        due.is("takes -1", Due.BAD, x.trader(0, 0, -1));
        x.bank(0, 0, 0);
        Due.read(x, "week 0 off 0 51;");
        x.note(0, 5, 0, 0, 7);
        due.is("50 at first: 49 is too little", 0, x.pay(7, 1, 1));
        Due.read(x, "week 0 off 0 50;");
        due.is("50 is enough", 5, x.pay(7, 1, 1));
    }

    /** BANKS 0, 1, 2 at 90, 70, 80 in the hundred where all the TRADERS are. */
    private static NoteCounter threeBanks() {
        NoteCounter x = new NoteCounter();
        for (int i = 0; i < 3; i++) {
            x.bank(0, 100, 0);
        }
        Due.read(x, "week 0 off 0 10 off 1 30 off 2 20;");
        return x;
    }

    private static void payTheWorstFirst() {
        NoteCounter x = threeBanks();
        int[] ofBanks = {0, 2, 1, 1, 0};
        for (int note = 0; note < 5; note++) {
            x.note(ofBanks[note], 10 + note, 0, 0, 0);
        }
        x.note(1, 50, 0, 0, 2);
        x.week(6);
        due.is("the worst of the least number", 12, x.pay(0, 1, 12));
        due.is("it is there", 1, x.told(2, 4));
        due.is("from the week on", 6, x.hands(2, 1, 1));
        due.is("the other one is not", 0, x.told(3, 4));
        due.is("two of them", 24, x.pay(0, 1, 14));
        due.is("the second worst", 1, x.told(1, 4));
        due.is("the best stay", 0, x.told(0, 4));
        due.is("all that is left", 24, x.pay(0, 1, 999));
        due.is("none is left", 0, x.pay(0, 1, 1));
        due.is("another one's stays", 2, x.told(5, 4));
        due.is("what came comes back", 60, x.pay(1, 0, 999));
        due.is("three hands", 3, x.hands(0, -1, 0));
        NoteCounter all = threeBanks();
        for (int note = 0; note < 24; note++) {
            all.note(note % 3, 1, 0, 0, 0);
        }
        due.is("all 24 at once", 24, all.pay(0, 1, 24));
    }

    /** What a NOTE is worth at the payer's and at the taker's need not be the same. */
    private static void payWhatIsTaken() {
        NoteCounter x = new NoteCounter();
        x.road(0, 1, 400);
        x.bank(0, 0, 0);
        x.bank(1, 0, 0);
        x.note(0, 3, 0, 0, 0);
        x.note(1, 4, 0, 0, 0);
        x.trader(1, 1, 100);
        due.is("only what is good there", 4, x.pay(0, 1, 999));
        x.trader(1, 1, 80);
        due.is("the other too", 3, x.pay(0, 1, 999));
        due.is("back: by the payer's town the far one", 3, x.pay(1, 0, 1));
        x.note(7, 9, 0, 0, 2);
        x.note(0, 8, 1, 0, 2);
        due.is("FALSE ones are worth nothing", 0, x.pay(2, 0, 999));
        x.trader(0, 0, 0);
        due.is("who takes all takes them", 17, x.pay(2, 0, 999));
        x.cut(0, 5);
        x.home(3);
        due.is("neither HALVED nor LOST ones", 9, x.pay(0, 5, 999) + x.pay(0, 6, 999) + payAll(x));
    }

    private static int payAll(NoteCounter x) {
        x.trader(3, 0, 0);
        return x.pay(0, 3, 999);
    }

    private static void payRefused() {
        NoteCounter x = threeBanks();
        x.note(0, 1, 0, 0, 0);
        due.is("alike", Due.BAD, x.pay(0, 0, 1));
        due.is("from 8", Due.BAD, x.pay(8, 0, 1));
        due.is("from -1", Due.BAD, x.pay(-1, 0, 1));
        due.is("to 8", Due.BAD, x.pay(0, 8, 1));
        due.is("to -1", Due.BAD, x.pay(0, -1, 1));
        due.is("sum 0", Due.BAD, x.pay(0, 1, 0));
        due.is("sum -1", Due.BAD, x.pay(0, 1, -1));
        due.is("sum 1000", Due.BAD, x.pay(0, 1, 1000));
        due.is("as it was", 0, x.told(0, 4));
    }

    private static void twelveHands() {
        NoteCounter x = threeBanks();
        x.note(0, 1, 0, 0, 0);
        for (int hand = 1; hand < 12; hand++) {
            due.is("hand " + hand, 1, x.pay((hand - 1) % 2, hand % 2, 1));
        }
        due.is("twelve", 12, x.hands(0, -1, 0));
        due.is("not any more", 0, x.pay(1, 0, 1));
        due.is("the last", 1, x.hands(0, 11, 0));
        due.is("none behind", Due.NONE, x.hands(0, 12, 0));
        due.is("cut all the same", 1, x.cut(0, 5));
        due.is("one half on", 0, x.half(0, 0, 6));
        due.is("both with another", 1, x.half(0, 1, 6));
        due.is("who has it", 6, x.told(0, 4));
        due.is("no thirteenth", 12, x.hands(0, -1, 0));
        due.is("led back from the last HAND", 0, x.bears(0, 0));
    }

    private static void bears() {
        NoteCounter x = threeBanks();
        x.note(0, 1, 0, 0, 4);
        due.is("one hand", 4, x.bears(0, 299));
        x.week(10);
        x.pay(4, 5, 1);
        x.week(20);
        x.pay(5, 6, 1);
        x.week(25);
        due.is("five weeks ago is too long", 6, x.bears(0, 4));
        due.is("is not", 5, x.bears(0, 5));
        due.is("14", 5, x.bears(0, 14));
        due.is("15", 4, x.bears(0, 15));
        x.pay(6, 4, 1);
        due.is("this week's", 6, x.bears(0, 0));
        due.is("all the way", 4, x.bears(0, 299));
    }

    private static void bearsRefused() {
        NoteCounter x = threeBanks();
        x.note(0, 1, 0, 0, 4);
        x.note(0, 1, 0, 0, 4);
        x.note(0, 1, 1, 0, 4);
        x.home(0);
        x.cut(1, 0);
        x.home(2);
        due.is("at its bank", Due.STATE, x.bears(0, 0));
        due.is("HALVED", Due.STATE, x.bears(1, 0));
        due.is("LOST", Due.STATE, x.bears(2, 0));
        due.is("BAD ahead of STATE", Due.BAD, x.bears(0, 300));
        due.is("weeks -1", Due.BAD, x.bears(0, -1));
        due.is("note 3", Due.BAD, x.bears(3, 0));
        due.is("note -1", Due.BAD, x.bears(-1, 0));
    }

    private static void home() {
        NoteCounter x = new NoteCounter();
        x.bank(0, 100, 6);
        x.note(0, 40, 6, 0, 0);
        x.note(0, 60, 6, 255, 0);
        x.note(0, 1, 7, 1, 0);
        x.note(5, 1, 6, 0, 0);
        due.is("paid", 40, x.home(0));
        due.is("gold", 60, x.house(0, 1));
        due.is("all that there is, WORN", 60, x.home(1));
        due.is("no gold", 0, x.house(0, 1));
        due.is("open", 0, x.house(0, 3));
        due.is("a WORN mark that is unlike", 0, x.home(2));
        due.is("is LOST", 1, x.told(2, 6));
        due.is("the bank stays open", 0, x.house(0, 3));
        due.is("again", Due.STATE, x.home(0));
        due.is("LOST again", Due.STATE, x.home(2));
        due.is("GHOST", Due.STATE, x.home(3));
        due.is("GHOST stays", 0, x.told(3, 4));
        due.is("note 4", Due.BAD, x.home(4));
        due.is("note -1", Due.BAD, x.home(-1));
    }

    private static void homeOfLittleGold() {
        NoteCounter x = new NoteCounter();
        x.bank(0, 10, 6);
        x.note(0, 11, 6, 0, 0);
        x.note(0, 10, 6, 0, 0);
        x.note(0, 1, 5, 0, 0);
        x.note(0, 10, 6, 0, 0);
        due.is("not so much", 0, x.home(0));
        due.is("SHUT", 1, x.house(0, 3));
        due.is("one SHUT", 1, x.count(2));
        due.is("its gold stays", 10, x.house(0, 1));
        due.is("it is there all the same", 1, x.told(0, 5));
        due.is("SHUT pays nothing", 0, x.home(1));
        due.is("there too", 1, x.told(1, 5));
        due.is("gold stays", 10, x.house(0, 1));
        due.is("unlike", 0, x.home(2));
        due.is("LOST at a SHUT one", 1, x.told(2, 6));
        x.cut(3, 1);
        due.is("HALVED", Due.STATE, x.home(3));
    }

    private static void cut() {
        NoteCounter x = threeBanks();
        x.note(0, 9, 0, 0, 2);
        x.note(0, 9, 0, 0, 2);
        x.home(1);
        due.is("its own trader", Due.BAD, x.cut(0, 2));
        due.is("to 8", Due.BAD, x.cut(0, 8));
        due.is("to -1", Due.BAD, x.cut(0, -1));
        due.is("to NONE", Due.BAD, x.cut(0, Due.NONE));
        due.is("note 2", Due.BAD, x.cut(2, 0));
        due.is("note -1", Due.BAD, x.cut(-1, 0));
        due.is("at its bank", Due.STATE, x.cut(1, 0));
        due.is("at its bank, to who had it", Due.STATE, x.cut(1, 2));
        due.is("BAD ahead of STATE", Due.BAD, x.cut(1, 8));
        due.is("cut", 1, x.cut(0, 3));
        due.is("no trader", Due.NONE, x.told(0, 4));
        due.is("HALVED", 1, x.count(7));
        due.is("with traders", 0, x.count(5));
        due.is("HALVED: to the other half's", Due.STATE, x.cut(0, 3));
        due.is("HALVED: to the first half's", Due.STATE, x.cut(0, 2));
        x.half(0, 1, 2);
        due.is("no more", 0, x.count(7));
        due.is("only once", Due.STATE, x.cut(0, 3));
        due.is("its own trader again", Due.BAD, x.cut(0, 2));
    }

    private static void halves() {
        NoteCounter x = threeBanks();
        x.note(0, 9, 0, 0, 2);
        x.cut(0, 3);
        due.is("the other on", 0, x.half(0, 1, 4));
        due.is("to the same one", 0, x.half(0, 1, 4));
        due.is("the first on", 0, x.half(0, 0, 5));
        due.is("as many hands as before", 1, x.hands(0, -1, 0));
        x.week(8);
        due.is("the first to the other's", 9, x.half(0, 0, 4));
        due.is("who has it", 4, x.told(0, 4));
        due.is("a hand more", 2, x.hands(0, -1, 0));
        due.is("that one", 4, x.hands(0, 1, 0));
        due.is("from the week on", 8, x.hands(0, 1, 1));
        due.is("it is paid with", 9, x.pay(4, 1, 1));
    }

    private static void halfLost() {
        NoteCounter x = threeBanks();
        x.note(0, 9, 0, 0, 2);
        x.cut(0, 3);
        due.is("one LOST", 4, x.half(0, 0, Due.NONE));
        due.is("still HALVED", 1, x.count(7));
        due.is("not LOST", 0, x.count(6));
        due.is("that half again", Due.STATE, x.half(0, 0, 3));
        due.is("LOST again", Due.STATE, x.half(0, 0, Due.NONE));
        due.is("the other one goes on", 4, x.half(0, 1, 2));
        due.is("still no trader has it", Due.NONE, x.told(0, 4));
        due.is("both LOST", 0, x.half(0, 1, Due.NONE));
        due.is("it is LOST", 1, x.told(0, 6));
        due.is("LOST is HALVED no more", 0, x.count(7));
        due.is("one LOST note", 1, x.count(6));
        due.is("no more", Due.STATE, x.half(0, 1, 3));
        due.is("no home", Due.STATE, x.home(0));
    }

    /** The last HAND is who cut it: no HAND more when both come back to that one. */
    private static void halvesJoinedElsewhere() {
        NoteCounter x = threeBanks();
        x.note(0, 8, 0, 0, 2);
        x.cut(0, 3);
        x.half(0, 0, 5);
        x.half(0, 1, 2);
        x.week(3);
        due.is("both back", 8, x.half(0, 0, 2));
        due.is("one hand", 1, x.hands(0, -1, 0));
        due.is("from its week", 0, x.hands(0, 0, 1));
        due.is("who has it", 2, x.told(0, 4));
    }

    private static void halfRefused() {
        NoteCounter x = threeBanks();
        x.note(0, 9, 0, 0, 2);
        due.is("not HALVED", Due.STATE, x.half(0, 0, 3));
        due.is("BAD ahead of STATE", Due.BAD, x.half(0, 2, 3));
        x.cut(0, 3);
        due.is("half 2", Due.BAD, x.half(0, 2, 3));
        due.is("half -1", Due.BAD, x.half(0, -1, 3));
        due.is("to 8", Due.BAD, x.half(0, 0, 8));
        due.is("to -1", Due.BAD, x.half(0, 0, -1));
        due.is("note 1", Due.BAD, x.half(1, 0, 3));
        due.is("note -1", Due.BAD, x.half(-1, 0, 3));
    }
}
