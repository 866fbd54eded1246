/** Boundary cases of promises 30 to 35. */
final class AskedEdges {
    private final Edge edge;

    AskedEdges(Edge edge) {
        this.edge = edge;
    }

    void run() {
        firstThatFits();
        kindRefused();
        asEach();
        asRefused();
        sizes();
        marks();
        nearestKind();
        askRefused();
        trace();
        countsAtTheirEnds();
        countRefused();
        statusOfFindings();
        statusOfCalls();
        refusalsInOrder();
    }

    /** NOTE i has KIND i. */
    private static NoteCounter kinds() {
        NoteCounter x = new NoteCounter();
        x.bank(0, 500, 12);
        x.note(0, 10, 12, 0, 0);
        x.note(0, 21, 12, 7, 0);
        x.note(0, 30, 13, 2, 0);
        x.note(6, 40, 12, 1, 0);
        x.note(0, 51, 12, 1, 0);
        x.note(0, 61, 13, 1, 0);
        x.cut(4, 1);
        x.home(5);
        return x;
    }

    private static NoteCounter notes(int n) {
        NoteCounter x = new NoteCounter();
        for (int i = 0; i < n; i++) {
            x.note(7, 1, 0, 0, 0);
        }
        return x;
    }

    private static final String KINDS = "KINDS of NOTES: 0 NOTE; 1 WORN, a NOTE: some mark is; 2 FALSE, a NOTE: unlike its PLATE in a mark that is not WORN; "
        + "3 GHOST, a FALSE one: no such BANK; 4 HALVED, a NOTE: it is that; 5 DEAD, a NOTE: LOST. It is told as the first that fits of DEAD, "
        + "HALVED, GHOST, FALSE, WORN, NOTE: by this it is asked.";

    private static int kindOf(int plate, int marks, int worn) {
        NoteCounter x = new NoteCounter();
        x.bank(0, 9, plate);
        x.note(0, 5, marks, worn, 0);
        return x.kind(0);
    }

    private void firstThatFits() {
        edge.promise(30, KINDS);
        edge.is("like, none WORN", 0, kindOf(255, 255, 0));
        for (int bit = 0; bit < 8; bit++) {
            edge.is("mark " + bit + " WORN", 1, kindOf(255, 255, 1 << bit));
            edge.is("mark " + bit + " unlike", 2, kindOf(255, 255 ^ 1 << bit, 0));
            edge.is("mark " + bit + " unlike and WORN", 1, kindOf(255, 255 ^ 1 << bit, 1 << bit));
            edge.is("mark " + bit + " unlike, the others WORN: FALSE ahead of WORN", 2, kindOf(255, 255 ^ 1 << bit, 255 ^ 1 << bit));
        }
        edge.is("all WORN", 1, kindOf(0, 255, 255));
        NoteCounter x = new NoteCounter();
        x.note(0, 5, 1, 2, 0);
        edge.is("GHOST ahead of WORN", 3, x.kind(0));
        x.cut(0, 1);
        edge.is("HALVED ahead of GHOST", 4, x.kind(0));
        x.bank(0, 9, 0);
        edge.is("HALVED ahead of FALSE", 4, x.kind(0));
        x.half(0, 0, Due.NONE);
        edge.is("one half LOST: HALVED", 4, x.kind(0));
        x.half(0, 1, Due.NONE);
        edge.is("DEAD ahead of FALSE", 5, x.kind(0));
        NoteCounter joined = new NoteCounter();
        joined.note(0, 5, 0, 0, 0);
        joined.cut(0, 1);
        joined.half(0, 1, 0);
        edge.is("HALVED no more: GHOST", 3, joined.kind(0));
        joined.bank(0, 9, 1);
        edge.is("GHOST no more: FALSE", 2, joined.kind(0));
        joined.home(0);
        edge.is("LOST: DEAD", 5, joined.kind(0));
        NoteCounter home = kinds();
        home.home(0);
        home.home(1);
        edge.is("at its BANK: NOTE", 0, home.kind(0));
        edge.is("at its BANK: WORN", 1, home.kind(1));
    }

    private void kindRefused() {
        edge.promise(30, "The KIND of a NOTE, as it is told. BAD.");
        edge.range("NOTE, of six", 0, 5, v -> kinds().kind(v), v -> v);
        edge.range("NOTE, of 24", 0, 23, 3, v -> notes(24).kind(v));
        edge.range("NOTE, of one", 0, 0, 3, v -> notes(1).kind(v));
        edge.is("NOTE, of none", Due.BAD, new NoteCounter().kind(0));
        for (int note = 0; note < 6; note++) {
            edge.is("KIND " + note, note, kinds().kind(note));
        }
    }

    private void asEach() {
        edge.promise(31, "A NOTE is taken as one of a KIND (0 .. 5): its sum.");
        int[] sums = {10, 21, 30, 40, 51, 61};
        for (int note = 0; note < 6; note++) {
            edge.is("each as a NOTE " + note, sums[note], kinds().as(note, 0));
            edge.is("each as what it is told " + note, sums[note], kinds().as(note, note));
        }
        edge.range("KIND of a NOTE", 0, 5, v -> kinds().as(0, v), v -> v == 0 ? 10 : Due.KIND);
        edge.range("KIND of a DEAD one", 0, 5, 61, v -> kinds().as(5, v));
        NoteCounter ends = new NoteCounter();
        ends.note(0, 1, 0, 0, 0);
        ends.note(0, 100, 0, 0, 0);
        edge.is("the least sum", 1, ends.as(0, 3));
        edge.is("the most", 100, ends.as(1, 3));
    }

    private void asRefused() {
        edge.promise(31, "BAD; KIND: it is no such one (each is a NOTE, GHOSTS are FALSE, too).");
        int[] sums = {10, 21, 30, 40, 51, 61};
        NoteCounter x = kinds();
        for (int note = 0; note < 6; note++) {
            for (int kind = 0; kind < 6; kind++) {
                boolean is = kind == 0 || kind == note || note == 3 && kind == 2;
                edge.is("NOTE " + note + " as " + kind, is ? sums[note] : Due.KIND, x.as(note, kind));
                edge.is("status of it", is ? 0 : 3, x.status());
            }
        }
        edge.range("NOTE, of six", 0, 5, v -> kinds().as(v, 0), v -> sums[v]);
        edge.range("NOTE, of 24", 0, 23, 1, v -> notes(24).as(v, 0));
        edge.is("BAD NOTE, of none", Due.BAD, new NoteCounter().as(0, 0));
        edge.is("BAD KIND ahead of KIND", Due.BAD, x.as(0, 6));
        edge.is("BAD NOTE ahead of KIND", Due.BAD, x.as(6, 5));
        x.as(0, 5);
        x.as(0, 6);
        edge.is("status behind BAD", 3, x.status());
        edge.is("FALSE is no GHOST", Due.KIND, x.as(2, 3));
        edge.is("GHOST is FALSE", 40, x.as(3, 2));
        edge.is("FALSE with a WORN mark is not told WORN", Due.KIND, x.as(2, 1));
        NoteCounter dead = new NoteCounter();
        dead.note(0, 5, 1, 1, 0);
        dead.cut(0, 1);
        edge.is("HALVED, it is no GHOST", Due.KIND, dead.as(0, 3));
        dead.half(0, 0, Due.NONE);
        dead.half(0, 1, Due.NONE);
        edge.is("DEAD, it is not HALVED", Due.KIND, dead.as(0, 4));
        edge.is("DEAD, it is a NOTE", 5, dead.as(0, 0));
    }

    private void ask(String what, NoteCounter x, int note, int asked, int want, int... bodies) {
        edge.is(what, want, x.ask(note, asked));
        for (int i = 0; i < bodies.length; i++) {
            edge.is(what + ": TRACE " + i, bodies[i], x.trace(i));
        }
        for (int i = bodies.length; i < 17; i++) {
            edge.is(what + ": TRACE " + i, Due.NONE, x.trace(i));
        }
    }

    private static final String ASKS = "ASKS of NOTES, by BODIES, each of which leaves its number in THE TRACE as it begins (the first 16): 0 SIZE: 10 lent to all "
        + "NOTES: the sum. 11 of WORN ones: what 10 gives, less how many marks are WORN. 12 of FALSE ones: 0 less MARK. 13 of GHOSTS: what "
        + "12 gives, twice. 14 of HALVED ones: what 10 gives, by 2.";

    private void sizes() {
        edge.promise(32, ASKS);
        NoteCounter x = kinds();
        ask("SIZE of a NOTE", x, 0, 0, 10, 10);
        ask("SIZE of a WORN one", x, 1, 0, 18, 11, 10);
        ask("SIZE of a FALSE one", x, 2, 0, -102, 12, 21, 20);
        ask("SIZE of a GHOST", x, 3, 0, -218, 13, 12, 22, 21, 20);
        ask("SIZE of a HALVED one", x, 4, 0, 25, 14, 10);
        ask("SIZE of a DEAD one", x, 5, 0, 61, 10);
        NoteCounter worn = new NoteCounter();
        worn.bank(0, 0, 0);
        worn.note(0, 1, 0, 255, 0);
        worn.note(0, 100, 0, 128, 0);
        worn.note(0, 1, 0, 0, 0);
        worn.note(0, 100, 0, 0, 0);
        worn.cut(2, 1);
        worn.cut(3, 1);
        ask("SIZE below 0: all WORN", worn, 0, 0, -7, 11, 10);
        ask("SIZE, one WORN", worn, 1, 0, 99, 11, 10);
        ask("SIZE of 1, by 2", worn, 2, 0, 0, 14, 10);
        ask("SIZE of 100, by 2", worn, 3, 0, 50, 14, 10);
        NoteCounter ghosts = notes(24);
        ask("SIZE of the last GHOST", ghosts, 23, 0, -2 * (23 + 100 + 7), 13, 12, 22, 21, 20);
        NoteCounter first = new NoteCounter();
        first.note(0, 1, 0, 0, 0);
        ask("SIZE of the first GHOST", first, 0, 0, -200, 13, 12, 22, 21, 20);
        first.bank(0, 0, 1);
        ask("SIZE of the first FALSE one", first, 0, 0, -100, 12, 21, 20);
    }

    private void marks() {
        edge.promise(32, "1 MARK: 20 lent to all NOTES: its number. 21 of FALSE ones: what 20 gives, and 100. 22 of GHOSTS: what 21 gives, and its BANK. "
            + "23 of DEAD ones: what 20 gives, and SIZE.");
        NoteCounter x = kinds();
        ask("MARK of a NOTE", x, 0, 1, 0, 20);
        ask("MARK of a WORN one", x, 1, 1, 1, 20);
        ask("MARK of a FALSE one", x, 2, 1, 102, 21, 20);
        ask("MARK of a GHOST", x, 3, 1, 109, 22, 21, 20);
        ask("MARK of a HALVED one", x, 4, 1, 4, 20);
        ask("MARK of a DEAD one", x, 5, 1, 66, 23, 20, 10);
        ask("MARK of the last GHOST", notes(24), 23, 1, 130, 22, 21, 20);
        NoteCounter dead = new NoteCounter();
        dead.note(7, 9, 3, 1, 0);
        dead.cut(0, 1);
        dead.half(0, 0, Due.NONE);
        dead.half(0, 1, Due.NONE);
        ask("MARK of a DEAD GHOST: as DEAD alone", dead, 0, 1, 9, 23, 20, 10);
    }

    private void nearestKind() {
        edge.promise(32, "(Of an ask the BODY told for the KIND begins, else that of the nearest KIND that it is, too, else the one that is lent; SIZE, MARK within "
            + "others are asked of the same NOTE anew.)");
        NoteCounter x = kinds();
        ask("GHOST: 13 of its own, 12 of FALSE, MARK anew from 22 on", x, 3, 0, -218, 13, 12, 22, 21, 20);
        ask("DEAD: SIZE anew is the one that is lent", x, 5, 1, 66, 23, 20, 10);
        ask("HALVED: MARK is the one that is lent", x, 4, 1, 4, 20);
        NoteCounter changed = new NoteCounter();
        changed.note(0, 8, 0, 0, 0);
        ask("asked as a GHOST", changed, 0, 1, 100, 22, 21, 20);
        changed.bank(0, 8, 1);
        ask("asked as a FALSE one", changed, 0, 1, 100, 21, 20);
        changed.cut(0, 1);
        ask("asked as a HALVED one", changed, 0, 1, 0, 20);
        changed.half(0, 1, 0);
        changed.home(0);
        ask("asked as a DEAD one", changed, 0, 1, 8, 23, 20, 10);
    }

    private void askRefused() {
        edge.promise(32, "An ASK (0, 1) of a NOTE. BAD. THE TRACE is empty ahead of it.");
        edge.range("ASK", 0, 1, v -> kinds().ask(0, v), v -> v == 0 ? 10 : 0);
        edge.range("NOTE, of six", 0, 5, v -> kinds().ask(v, 0), v -> v == 0 ? 10 : 61);
        edge.range("NOTE, of 24", 0, 23, v -> notes(24).ask(v, 1), v -> v + 107);
        edge.is("NOTE, of none", Due.BAD, new NoteCounter().ask(0, 0));
        NoteCounter x = kinds();
        ask("the longest", x, 3, 0, -218, 13, 12, 22, 21, 20);
        ask("a shorter one: it was empty ahead", x, 0, 0, 10, 10);
        for (int i = 0; i < 20; i++) {
            ask("again and again", x, 3, 1, 109, 22, 21, 20);
        }
        x.ask(6, 0);
        x.ask(0, 2);
        x.ask(-1, -1);
        edge.is("what is refused leaves it", 22, x.trace(0));
        edge.is("to its end", 20, x.trace(2));
        x.sheet(0, 0, -1);
        x.ask(0, 0);
        edge.is("status stays", 4, x.status());
    }

    private void trace() {
        edge.promise(33, "Number i of THE TRACE; NONE.");
        NoteCounter x = kinds();
        edge.is("before any ask", Due.NONE, x.trace(0));
        x.ask(3, 0);
        edge.is("the first", 13, x.trace(0));
        edge.is("the last", 20, x.trace(4));
        for (int i : new int[] {5, 15, 16, 17, Edge.MAX, -1, -2, Edge.MIN}) {
            edge.is("no number " + i, Due.NONE, x.trace(i));
        }
        x.kind(0);
        x.as(0, 0);
        x.told(0, 0);
        edge.is("other calls leave it", 13, x.trace(0));
    }

    private void countsAtTheirEnds() {
        edge.promise(34, "How many: 0 SHEETS, 1 BANKS, 2 those SHUT, 3 entries, 4 NOTES, 5 with TRADERS, 6 LOST, 7 HALVED, 8 bytes on the tape, 9 THE WEEK. BAD.");
        NoteCounter x = new NoteCounter();
        for (int what = 0; what < 10; what++) {
            edge.is("none at first, what " + what, 0, x.count(what));
        }
        for (int i = 0; i < 8; i++) {
            x.sheet(i, 0, 0);
            x.bank(0, 0, 0);
        }
        for (int i = 0; i < 24; i++) {
            x.note(i % 8, 1, 0, 0, 0);
        }
        edge.is("all with TRADERS", 24, x.count(5));
        for (int i = 0; i < 8; i++) {
            x.home(i);
        }
        for (int i = 8; i < 24; i++) {
            x.cut(i, 1);
        }
        Due.read(x, "week 0" + " off 0 1".repeat(40) + ";");
        Due.type(x, " ".repeat(400));
        x.week(299);
        int[] want = {8, 8, 8, 40, 24, 0, 0, 16, 400, 299};
        for (int what = 0; what < 10; what++) {
            edge.is("full, what " + what, want[what], x.count(what));
        }
        for (int i = 8; i < 24; i++) {
            x.half(i, 0, Due.NONE);
        }
        edge.is("HALVED with one half LOST", 16, x.count(7));
        edge.is("is not LOST", 0, x.count(6));
        for (int i = 8; i < 24; i++) {
            x.half(i, 1, Due.NONE);
        }
        edge.is("LOST", 16, x.count(6));
        edge.is("HALVED no more", 0, x.count(7));
        edge.is("24 NOTES still", 24, x.count(4));
        x.drop(0);
        edge.is("one SHEET less", 7, x.count(0));
        x.books();
        edge.is("no bytes", 0, x.count(8));
    }

    private void countRefused() {
        edge.promise(34, "How many: 0 SHEETS, 1 BANKS, 2 those SHUT, 3 entries, 4 NOTES, 5 with TRADERS, 6 LOST, 7 HALVED, 8 bytes on the tape, 9 THE WEEK. BAD.");
        NoteCounter x = kinds();
        x.week(17);
        x.sheet(4, 1, 9);
        edge.range("what", 0, 9, x::count, v -> v == 0 ? 1 : 17);
        int[] want = {1, 1, 0, 0, 6, 4, 1, 1, 0, 17};
        for (int what = 0; what < 10; what++) {
            edge.is("what " + what, want[what], x.count(what));
        }
    }

    private void statusOfFindings() {
        edge.promise(35, "Of the latest call with a SHEET, or as(), that was not BAD, STATE, FULL: the number of its FINDING; 0: it had none, or there was none.");
        NoteCounter x = kinds();
        edge.is("there was none", 0, x.status());
        x.sheet(0, 0, 61);
        edge.is("there was none that counts", 0, x.status());
        edge.is("NULL", Due.NULL, x.set(0, 0, 0));
        edge.is("1", 1, x.status());
        edge.is("asked again", 1, x.status());
        x.sheet(0, 0, 8);
        edge.is("it had none", 0, x.status());
        x.set(0, 8, 0);
        edge.is("2", 2, x.status());
        x.as(0, 1);
        edge.is("3", 3, x.status());
        x.as(0, 0);
        edge.is("as() had none", 0, x.status());
        x.sheet(1, 1, -1);
        edge.is("4", 4, x.status());
        x.sheet(1, 1, 0);
        x.copy(0, 0, 1, 0, 0);
        edge.is("5", 5, x.status());
        int[] good = {x.set(0, 0, 1), x.copy(0, 0, 0, 1, 1), x.rates(0, 0, 0), x.drop(1)};
        edge.is("four without", 1 + 1 + 8, good[0] + good[1] + good[2] + good[3]);
        edge.is("0", 0, x.status());
    }

    /** Each kind of call behind one that has left a FINDING. */
    private void statusOfCalls() {
        edge.promise(35, "Of the latest call with a SHEET, or as(), that was not BAD, STATE, FULL: the number of its FINDING; 0: it had none, or there was none.");
        NoteCounter x = kinds();
        x.sheet(0, 2, 60);
        x.sheet(0, 2, -1);
        x.road(0, 1, 5);
        x.bank(0, 0, 0);
        x.hold(0, 1, 5);
        x.week(3);
        x.feed(0x20, 1);
        x.books();
        x.known(0, 0, 0, 0);
        x.note(0, 1, 0, 0, 0);
        x.trader(0, 0, 0);
        x.pay(0, 1, 1);
        x.bears(0, 0);
        x.home(1);
        x.cut(2, 3);
        x.half(2, 0, 4);
        x.kind(0);
        x.ask(0, 0);
        x.home(1);
        edge.is("calls without a SHEET leave it", 4, x.status());
        x.set(8, 0, 0);
        x.copy(0, 0, 8, 0, 0);
        x.drop(8);
        x.sheet(8, 0, 0);
        x.rates(6, 0, 0);
        x.way(0, 0, 0, 9, 1, 0);
        x.as(0, 6);
        edge.is("BAD ones leave it", 4, x.status());
        x.set(0, 0, -1);
        x.sheet(0, 2, -1);
        x.rates(0, 0, 0);
        x.way(0, 0, 0, 1, 1, 0);
        edge.is("then BAD: an ITEM", 0, x.set(0, 0, 0));
        x.sheet(0, 2, -1);
        edge.is("a WAY", 0, x.way(0, 0, 0, 1, 1, 0));
        edge.is("that had none", 0, x.status());
        x.sheet(0, 2, -1);
        edge.is("RATES", 8, x.rates(0, 0, 52));
        edge.is("that had none, too", 0, x.status());
        x.sheet(0, 2, -1);
        x.set(0, 0, 101);
        x.sheet(0, 2, -1);
        edge.is("an ITEM of 101", Due.BAD, x.rates(0, 0, 0));
        edge.is("no such NOTE", Due.BAD, x.way(0, 0, 0, 1, 1, 0));
        edge.is("they leave it", 4, x.status());
    }

    private void refusalsInOrder() {
        edge.promise(35, "Refusals are answers, the first of these that fits: BAD (a number is not as told; there is no such thing), STATE (as told), FULL (as told), "
            + "then FINDINGS, of several the first in time: -1000010 less 1 NULL (a SHEET that is missing), 2 PLACE (no such place of a SHEET), "
            + "3 KIND (a NOTE that is not that), 4 SIZE (fewer than none), 5 STORE (SHEETS of two LANES).");
        edge.is("NONE", -1000000, NoteCounter.NONE);
        edge.is("BAD", -1000001, NoteCounter.BAD);
        edge.is("STATE", -1000002, NoteCounter.STATE);
        edge.is("FULL", -1000003, NoteCounter.FULL);
        NoteCounter x = kinds();
        x.sheet(1, 0, 1);
        x.sheet(2, 1, 1);
        edge.is("NULL", -1000011, x.drop(0));
        edge.is("PLACE", -1000012, x.set(1, 1, 0));
        edge.is("KIND", -1000013, x.as(0, 1));
        edge.is("SIZE", -1000014, x.sheet(1, 0, -1));
        edge.is("STORE", -1000015, x.copy(1, 0, 2, 0, 1));
        edge.is("STATE of a HALVED NOTE", -1000002, x.home(4));
        for (int i = 1; i < 8; i++) {
            x.bank(0, 0, 0);
        }
        edge.is("FULL of BANKS", -1000003, x.bank(0, 0, 0));
        edge.is("BAD ahead of FULL", -1000001, x.bank(0, 0, 256));
        edge.is("BAD ahead of STATE", -1000001, x.cut(4, 8));
    }
}
