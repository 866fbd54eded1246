/** Promises 8 to 11. */
public final class BanksTest {
    private static final Due due = new Due();

    public static void main(String[] args) {
        bank();
        house();
        hold();
        falls();
        fallsByShut();
        longFall();
        due.end();
    }

    private static void bank() {
        NoteCounter x = new NoteCounter();
        due.is("town 6", Due.BAD, x.bank(6, 0, 0));
        due.is("town -1", Due.BAD, x.bank(-1, 0, 0));
        due.is("gold -1", Due.BAD, x.bank(0, -1, 0));
        due.is("gold 100000", Due.BAD, x.bank(0, 100000, 0));
        due.is("plate -1", Due.BAD, x.bank(0, 0, -1));
        due.is("plate 256", Due.BAD, x.bank(0, 0, 256));
        for (int i = 0; i < 8; i++) {
            due.is("number", i, x.bank(i % 6, 99999, 255));
        }
        due.is("the ninth", Due.FULL, x.bank(0, 0, 0));
        due.is("BAD ahead of FULL", Due.BAD, x.bank(6, 0, 0));
        due.is("eight", 8, x.count(1));
    }

    private static void house() {
        NoteCounter x = new NoteCounter();
        due.is("no bank", Due.BAD, x.house(0, 0));
        x.bank(1, 2, 3);
        x.bank(5, 99999, 255);
        int[] want = {5, 99999, 255, 0, 0};
        for (int what = 0; what < 5; what++) {
            due.is("house " + what, want[what], x.house(1, what));
        }
        due.is("the first one's gold", 2, x.house(0, 1));
        due.is("what 5", Due.BAD, x.house(1, 5));
        due.is("what -1", Due.BAD, x.house(1, -1));
        due.is("bank 2", Due.BAD, x.house(2, 0));
        due.is("bank -1", Due.BAD, x.house(-1, 0));
    }

    private static void hold() {
        NoteCounter x = new NoteCounter();
        x.bank(0, 0, 0);
        x.bank(0, 0, 0);
        due.is("first", 0, x.hold(0, 1, 9999));
        due.is("then", 9999, x.hold(0, 1, 3));
        due.is("the other way round", 0, x.hold(1, 0, 4));
        due.is("need", 0, x.hold(0, 0, 99999));
        due.is("house tells it", 99999, x.house(0, 4));
        due.is("need then", 99999, x.hold(0, 0, 0));
        due.is("held is as it was", 3, x.hold(0, 1, 0));
        due.is("10000", Due.BAD, x.hold(0, 1, 10000));
        due.is("-1", Due.BAD, x.hold(0, 1, -1));
        due.is("need 100000", Due.BAD, x.hold(0, 0, 100000));
        due.is("need -1", Due.BAD, x.hold(0, 0, -1));
        due.is("bank 2", Due.BAD, x.hold(2, 0, 0));
        due.is("other 2", Due.BAD, x.hold(0, 2, 0));
        due.is("both 2", Due.BAD, x.hold(2, 2, 0));
        due.is("bank -1", Due.BAD, x.hold(-1, 0, 0));
    }

    private static void falls() {
        NoteCounter x = new NoteCounter();
        due.is("no banks", 0, x.falls(0));
        due.is("what 2", Due.BAD, x.falls(2));
        due.is("what -1", Due.BAD, x.falls(-1));
        x.bank(0, 10, 0);
        x.bank(0, 10, 0);
        x.bank(0, 10, 0);
        x.hold(0, 0, 10);
        x.hold(1, 1, 15);
        x.hold(1, 0, 5);
        x.hold(2, 2, 16);
        x.hold(2, 1, 6);
        due.is("just enough", 0, x.falls(0));
        due.is("no round", 0, x.falls(1));
        x.hold(0, 0, 11);
        due.is("one by the other", 7, x.falls(0));
        due.is("three rounds", 3, x.falls(1));
        due.is("none is SHUT by it", 0, x.count(2));
        x.hold(2, 2, 10);
        due.is("the third stays", 3, x.falls(0));
        due.is("two rounds", 2, x.falls(1));
        x.hold(1, 1, 99);
        due.is("all at once", 3, x.falls(0));
        due.is("one round", 1, x.falls(1));
    }

    private static void fallsByShut() {
        NoteCounter x = new NoteCounter();
        x.bank(0, 0, 0);
        x.bank(0, 0, 0);
        x.hold(1, 0, 8);
        x.hold(1, 1, 8);
        x.note(0, 1, 0, 0, 0);
        due.is("before", 0, x.falls(0));
        due.is("SHUT by a NOTE", 0, x.home(0));
        due.is("SHUT, then the other one", 3, x.falls(0));
        due.is("what is SHUT is no round", 1, x.falls(1));
    }

    private static void longFall() {
        NoteCounter x = new NoteCounter();
        for (int i = 0; i < 8; i++) {
            x.bank(0, 0, 0);
        }
        for (int i = 0; i < 7; i++) {
            x.hold(i, i, 1);
            x.hold(i, i + 1, 1);
        }
        x.hold(7, 7, 1);
        due.is("all eight", 255, x.falls(0));
        due.is("eight rounds", 8, x.falls(1));
    }
}
