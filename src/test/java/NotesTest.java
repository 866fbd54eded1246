/** Promises 17 to 21. */
public final class NotesTest {
    private static final Due due = new Due();

    public static void main(String[] args) {
        note();
        noteRefused();
        told();
        looks();
        looksAsKnown();
        worth();
        worthRefused();
        hands();
        due.end();
    }

    private static void note() {
        NoteCounter x = new NoteCounter();
        for (int i = 0; i < 24; i++) {
            due.is("number", i, x.note(i % 8, 1 + i, i, 255 - i, i % 8));
        }
        due.is("the 25th", Due.FULL, x.note(0, 1, 0, 0, 0));
        due.is("BAD ahead of FULL", Due.BAD, x.note(0, 0, 0, 0, 0));
        due.is("24", 24, x.count(4));
        due.is("all with traders", 24, x.count(5));
        int[] want = {7, 24, 23, 232, 7, 0, 0};
        for (int what = 0; what < 7; what++) {
            due.is("told of the last", want[what], x.told(23, what));
        }
    }

    private static void noteRefused() {
        NoteCounter x = new NoteCounter();
        due.is("bank -1", Due.BAD, x.note(-1, 1, 0, 0, 0));
        due.is("bank 8", Due.BAD, x.note(8, 1, 0, 0, 0));
        due.is("sum 0", Due.BAD, x.note(0, 0, 0, 0, 0));
        due.is("sum 101", Due.BAD, x.note(0, 101, 0, 0, 0));
        due.is("marks -1", Due.BAD, x.note(0, 1, -1, 0, 0));
        due.is("marks 256", Due.BAD, x.note(0, 1, 256, 0, 0));
        due.is("worn -1", Due.BAD, x.note(0, 1, 0, -1, 0));
        due.is("worn 256", Due.BAD, x.note(0, 1, 0, 256, 0));
        due.is("trader -1", Due.BAD, x.note(0, 1, 0, 0, -1));
        due.is("trader 8", Due.BAD, x.note(0, 1, 0, 0, 8));
        due.is("none came", 0, x.count(4));
        due.is("at the edges", 0, x.note(7, 100, 255, 255, 7));
    }

    private static void told() {
        NoteCounter x = new NoteCounter();
        x.bank(0, 50, 9);
        x.note(0, 5, 9, 0, 3);
        x.note(0, 5, 8, 0, 3);
        x.note(0, 5, 9, 0, 3);
        x.home(0);
        x.home(1);
        x.cut(2, 4);
        int[][] want = {{Due.NONE, 1, 0}, {Due.NONE, 0, 1}, {Due.NONE, 0, 0}};
        for (int note = 0; note < 3; note++) {
            for (int what = 4; what < 7; what++) {
                due.is("told " + note + " " + what, want[note][what - 4], x.told(note, what));
            }
        }
        due.is("note 3", Due.BAD, x.told(3, 0));
        due.is("note -1", Due.BAD, x.told(-1, 0));
        due.is("what 7", Due.BAD, x.told(0, 7));
        due.is("what -1", Due.BAD, x.told(0, -1));
    }

    private static void looks() {
        NoteCounter x = new NoteCounter();
        x.bank(0, 0, 0b1100);
        x.note(0, 1, 0b1100, 0, 0);
        x.note(0, 1, 0b1101, 0, 0);
        x.note(0, 1, 0b1101, 0b0001, 0);
        x.note(0, 1, 0b1101, 0b0010, 0);
        x.note(1, 1, 0b1100, 0, 0);
        x.note(0, 1, 0, 255, 0);
        int[] want = {1, 0, 2, 0, 0, 2};
        for (int note = 0; note < want.length; note++) {
            due.is("looks " + note, want[note], x.looks(note, 0, 0));
        }
        x.bank(0, 0, 0b1100);
        due.is("a GHOST no more", 1, x.looks(4, 0, 0));
        due.is("note 6", Due.BAD, x.looks(6, 0, 0));
        due.is("note -1", Due.BAD, x.looks(-1, 0, 0));
        due.is("town 6", Due.BAD, x.looks(0, 6, 0));
        due.is("town -1", Due.BAD, x.looks(0, -1, 0));
        due.is("week 300", Due.BAD, x.looks(0, 0, 300));
        due.is("week -1", Due.BAD, x.looks(0, 0, -1));
    }

    private static void looksAsKnown() {
        NoteCounter x = new NoteCounter();
        x.bank(0, 0, 0b1111);
        x.bank(0, 0, 0b1111);
        x.road(0, 1, 100);
        x.note(0, 1, 0b1110, 0b0001, 0);
        Due.read(x, "week 2 false 0 7; week 4 false 0 14; week 1 false 1 7;");
        due.is("nothing known of this bank", 2, x.looks(0, 0, 1));
        due.is("unlike the only one known", 1, x.looks(0, 0, 2));
        due.is("not so far yet", 2, x.looks(0, 1, 2));
        due.is("so far", 1, x.looks(0, 1, 3));
        due.is("it may be the second", 2, x.looks(0, 0, 4));
        due.is("not known so far", 1, x.looks(0, 1, 4));
        due.is("known so far", 2, x.looks(0, 1, 5));
        due.is("without a way", 2, x.looks(0, 2, 299));
        x.note(0, 1, 0b1111, 0, 0);
        Due.read(x, "week 0 false 0 15;");
        due.is("no mark WORN", 1, x.looks(1, 0, 299));
    }

    private static void worth() {
        NoteCounter x = new NoteCounter();
        x.road(0, 1, 39);
        x.road(1, 2, 500);
        x.road(2, 3, 500);
        x.road(3, 4, 500);
        x.road(4, 5, 500);
        x.bank(1, 0, 1);
        x.note(0, 7, 1, 0, 0);
        due.is("at home", 700, x.worth(0, 1, 0));
        due.is("39 miles: one", 693, x.worth(0, 0, 0));
        due.is("1500 miles: 75", 175, x.worth(0, 4, 0));
        due.is("2000 miles: all of it", 0, x.worth(0, 5, 0));
        Due.read(x, "week 3 off 0 30; week 9 stopped 0 60;");
        due.is("off", 490, x.worth(0, 1, 3));
        due.is("off by more than there is", 0, x.worth(0, 4, 299 - 281));
        due.is("off and far", 483, x.worth(0, 0, 3));
        due.is("stopped", 420, x.worth(0, 0, 9));
        due.is("stopped, and far: no miles", 420, x.worth(0, 5, 299));
        x.road(0, 1, 0);
        x.road(0, 5, 1);
        x.road(1, 2, 0);
        due.is("stopped, without a way to its bank", 420, x.worth(0, 5, 299));
        due.is("not stopped yet, without a way", 0, x.worth(0, 5, 8));
        due.is("nothing known at home", 700, x.worth(0, 1, 299));
        x.note(0, 100, 1, 255, 0);
        due.is("OPEN", 10000, x.worth(1, 1, 0));
        x.note(0, 100, 0, 0, 0);
        due.is("FALSE", 0, x.worth(2, 1, 0));
        due.is("FALSE of a stopped one", 0, x.worth(2, 0, 299));
        x.note(1, 100, 1, 0, 0);
        due.is("GHOST", 0, x.worth(3, 1, 0));
    }

    private static void worthRefused() {
        NoteCounter x = new NoteCounter();
        x.note(0, 1, 0, 0, 0);
        due.is("note 1", Due.BAD, x.worth(1, 0, 0));
        due.is("note -1", Due.BAD, x.worth(-1, 0, 0));
        due.is("town 6", Due.BAD, x.worth(0, 6, 0));
        due.is("town -1", Due.BAD, x.worth(0, -1, 0));
        due.is("week 300", Due.BAD, x.worth(0, 0, 300));
        due.is("week -1", Due.BAD, x.worth(0, 0, -1));
    }

    private static void hands() {
        NoteCounter x = new NoteCounter();
        x.bank(0, 0, 0);
        x.week(4);
        x.note(0, 1, 0, 0, 6);
        x.week(5);
        x.pay(6, 2, 1);
        due.is("two", 2, x.hands(0, -1, 0));
        due.is("two, by either what", 2, x.hands(0, -1, 1));
        due.is("first", 6, x.hands(0, 0, 0));
        due.is("from 4 on", 4, x.hands(0, 0, 1));
        due.is("then", 2, x.hands(0, 1, 0));
        due.is("from 5 on", 5, x.hands(0, 1, 1));
        due.is("no third", Due.NONE, x.hands(0, 2, 0));
        due.is("no third week", Due.NONE, x.hands(0, 2, 1));
        due.is("far beyond", Due.NONE, x.hands(0, Integer.MAX_VALUE, 1));
        due.is("i -2", Due.BAD, x.hands(0, -2, 0));
        due.is("what 2", Due.BAD, x.hands(0, 0, 2));
        due.is("what -1", Due.BAD, x.hands(0, 0, -1));
        due.is("note 1", Due.BAD, x.hands(1, 0, 0));
        due.is("note -1", Due.BAD, x.hands(-1, 0, 0));
    }
}
