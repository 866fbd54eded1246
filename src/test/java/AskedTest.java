/** Promises 30 to 34. */
public final class AskedTest {
    private static final Due due = new Due();

    public static void main(String[] args) {
        NoteCounter x = sixKinds();
        kind(x);
        as(x);
        asks(x);
        askRefused(x);
        kindsThatFitTogether();
        count();
        due.end();
    }

    /** NOTE i has KIND i. */
    private static NoteCounter sixKinds() {
        NoteCounter x = new NoteCounter();
        x.bank(0, 500, 12);
        x.note(0, 10, 12, 0, 0);
        x.note(0, 21, 12, 7, 0);
        x.note(0, 30, 13, 2, 0);
        x.note(6, 40, 12, 1, 0);
        x.note(0, 51, 12, 1, 0);
        x.note(0, 60, 13, 1, 0);
        x.cut(4, 1);
        x.home(5);
        return x;
    }

    private static void kind(NoteCounter x) {
        for (int note = 0; note < 6; note++) {
            due.is("kind " + note, note, x.kind(note));
        }
        due.is("note 6", Due.BAD, x.kind(6));
        due.is("note -1", Due.BAD, x.kind(-1));
    }

    private static void as(NoteCounter x) {
        int[] sums = {10, 21, 30, 40, 51, 60};
        for (int note = 0; note < 6; note++) {
            for (int kind = 0; kind < 6; kind++) {
                boolean isOne = kind == 0 || kind == note || (note == 3 && kind == 2);
                due.is("as " + note + " " + kind, isOne ? sums[note] : Due.KIND, x.as(note, kind));
                due.is("status", isOne ? 0 : 3, x.status());
            }
        }
        due.is("kind 6", Due.BAD, x.as(0, 6));
        due.is("kind -1", Due.BAD, x.as(0, -1));
        due.is("note 6", Due.BAD, x.as(6, 0));
        due.is("note -1", Due.BAD, x.as(-1, 0));
    }

    private static void ask(NoteCounter x, int note, int what, int want, int... bodies) {
        due.is("ask " + note + " " + what, want, x.ask(note, what));
        for (int i = 0; i < bodies.length; i++) {
            due.is("trace " + note + " " + what + " " + i, bodies[i], x.trace(i));
        }
        due.is("end of trace " + note + " " + what, Due.NONE, x.trace(bodies.length));
    }

    private static void asks(NoteCounter x) {
        ask(x, 0, 0, 10, 10);
        ask(x, 1, 0, 21 - 3, 11, 10);
        ask(x, 2, 0, -102, 12, 21, 20);
        ask(x, 3, 0, -2 * (3 + 100 + 6), 13, 12, 22, 21, 20);
        ask(x, 4, 0, 25, 14, 10);
        ask(x, 5, 0, 60, 10);
        ask(x, 0, 1, 0, 20);
        ask(x, 1, 1, 1, 20);
        ask(x, 2, 1, 102, 21, 20);
        ask(x, 3, 1, 109, 22, 21, 20);
        ask(x, 4, 1, 4, 20);
        ask(x, 5, 1, 65, 23, 20, 10);
    }

    private static void askRefused(NoteCounter x) {
        x.ask(3, 1);
        due.is("note 6", Due.BAD, x.ask(6, 0));
        due.is("note -1", Due.BAD, x.ask(-1, 0));
        due.is("what 2", Due.BAD, x.ask(0, 2));
        due.is("what -1", Due.BAD, x.ask(0, -1));
        due.is("the trace stays", 22, x.trace(0));
        due.is("trace -1", Due.NONE, x.trace(-1));
        due.is("trace 16", Due.NONE, x.trace(16));
        due.is("trace MIN", Due.NONE, x.trace(Integer.MIN_VALUE));
        due.is("trace MAX", Due.NONE, x.trace(Integer.MAX_VALUE));
    }

    private static void kindsThatFitTogether() {
        NoteCounter x = new NoteCounter();
        x.note(0, 9, 5, 1, 0);
        due.is("GHOST ahead of WORN", 3, x.kind(0));
        x.cut(0, 1);
        due.is("HALVED ahead of GHOST", 4, x.kind(0));
        x.half(0, 0, Due.NONE);
        due.is("with a half LOST", 4, x.kind(0));
        x.half(0, 1, Due.NONE);
        due.is("DEAD ahead of all", 5, x.kind(0));
        x.note(0, 9, 5, 1, 0);
        x.bank(0, 9, 6);
        due.is("FALSE ahead of WORN", 2, x.kind(1));
        x.note(0, 9, 6, 1, 0);
        due.is("WORN", 1, x.kind(2));
        due.is("is no NOTE alone, but one", 9, x.as(2, 0));
        x.note(0, 9, 6, 0, 0);
        due.is("NOTE", 0, x.kind(3));
        x.home(3);
        due.is("at its bank", 0, x.kind(3));
        due.is("it was paid", 0, x.house(0, 1));
    }

    private static void count() {
        NoteCounter x = sixKinds();
        x.home(0);
        x.note(0, 100, 12, 0, 3);
        x.bank(2, 1, 12);
        x.note(1, 2, 12, 0, 3);
        x.home(7);
        x.sheet(3, 0, 0);
        x.week(17);
        Due.read(x, "week 0 off 0 1 off 0 2;");
        Due.type(x, "week ");
        int[] want = {1, 2, 1, 2, 8, 4, 1, 1, 5, 17};
        for (int what = 0; what < 10; what++) {
            due.is("count " + what, want[what], x.count(what));
        }
        due.is("count 10", Due.BAD, x.count(10));
        due.is("count -1", Due.BAD, x.count(-1));
    }
}
