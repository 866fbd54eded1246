/** Boundary cases of promises 1 to 5. */
final class SheetEdges {
    private static final int MIN = Edge.MIN, MAX = Edge.MAX;
    private static final int BYTES = 0, SHORTS = 1, INTS = 2;
    private final Edge edge;

    SheetEdges(Edge edge) {
        this.edge = edge;
    }

    void run() {
        newObject();
        twoObjects();
        sheetNumbers();
        zerosAtFirst();
        inPlace();
        sheetRefused();
        lowestBits();
        setPlaces();
        setRefused();
        copyToTheEnds();
        copyOfNone();
        copyAsTheyWere();
        copyRefused();
        copyOrder();
        drop();
        dropRefused();
    }

    /** 24 NOTES of the sums 1 to 24, each worth its sum in TOWN 0, so that a WAY of one tells an ITEM. */
    private static NoteCounter reader() {
        NoteCounter x = new NoteCounter();
        for (int note = 0; note < 24; note++) {
            x.note(0, 1 + note, 0, 0, 0);
        }
        Due.lay(x, 7, 100, 100, 100, 100, 100, 100, 100, 100);
        x.rates(0, 7, 0);
        x.drop(7);
        return x;
    }

    /** An ITEM 0 to 23; BAD: it is another one. */
    private static int item(NoteCounter x, int sheet, int i) {
        int gold = x.way(0, sheet, i, 1, 1, 0);
        return gold > 0 ? gold - 1 : gold;
    }

    private void items(String what, NoteCounter x, int sheet, int... want) {
        for (int i = 0; i < want.length; i++) {
            edge.is(what + ": ITEM " + i, want[i], item(x, sheet, i));
        }
        edge.is(what + ": no ITEM " + want.length, Due.PLACE, item(x, sheet, want.length));
    }

    private void newObject() {
        edge.promise(1, "All as at first.");
        NoteCounter x = new NoteCounter();
        edge.is("status", 0, x.status());
        edge.is("fault", 0, x.fault());
        for (int what = 0; what < 10; what++) {
            edge.is("count " + what, 0, x.count(what));
        }
        for (int i = 0; i < 17; i++) {
            edge.is("trace " + i, Due.NONE, x.trace(i));
        }
        for (int a = 0; a < 6; a++) {
            for (int b = 0; b < 6; b++) {
                edge.is("far " + a + " " + b, a == b ? 0 : Due.NONE, x.far(a, b));
                edge.is("road " + a + " " + b, a == b ? Due.BAD : 0, x.road(a, b, 0));
            }
        }
        edge.is("no BANK", Due.BAD, x.house(0, 0));
        edge.is("none falls", 0, x.falls(0));
        edge.is("no round", 0, x.falls(1));
        edge.is("no NOTE", Due.BAD, x.told(0, 0));
        edge.is("an empty tape", 0, x.books());
        edge.is("THE WEEK", 0, x.week(0));
        for (int sheet = 0; sheet < 8; sheet++) {
            edge.is("SHEET " + sheet + " is missing", Due.NULL, x.drop(sheet));
        }
    }

    private void twoObjects() {
        edge.promise(1, "All as at first.");
        NoteCounter used = reader();
        used.week(299);
        used.road(0, 1, 1);
        used.bank(0, 1, 0);
        Due.read(used, "week 300");
        used.trader(0, 5, 100);
        used.ask(0, 0);
        used.sheet(0, 0, -1);
        NoteCounter x = new NoteCounter();
        edge.is("status beside a used one", 0, x.status());
        edge.is("fault beside a used one", 0, x.fault());
        edge.is("trace beside a used one", Due.NONE, x.trace(0));
        edge.is("far beside a used one", Due.NONE, x.far(0, 1));
        for (int what = 0; what < 10; what++) {
            edge.is("count beside a used one " + what, 0, x.count(what));
        }
        Due.lay(x, 0, 0);
        x.note(0, 100, 0, 0, 0);
        edge.is("RATES beside a used one", 0, x.way(0, 0, 0, 1, 1, 0));
        edge.is("a used one keeps its own", 1, used.far(0, 1));
    }

    private void sheetNumbers() {
        edge.promise(2, "SHEETS 0 .. 7 are missing (at first), or have a LANE (0 bytes, 1 shorts, 2 ints) and 0 to 60 ITEMS, "
            + "0 at first.");
        edge.range("SHEET", 0, 7, 5, v -> new NoteCounter().sheet(v, BYTES, 5));
        edge.range("LANE", BYTES, INTS, 5, v -> new NoteCounter().sheet(0, v, 5));
        for (int lane = BYTES; lane <= INTS; lane++) {
            int of = lane;
            edge.taken("n", 0, 60, v -> new NoteCounter().sheet(0, of, v), v -> v);
            edge.refusedAbove("n", 60, Due.BAD, v -> new NoteCounter().sheet(0, of, v));
            edge.refusedBelow("n", 0, Due.SIZE, v -> new NoteCounter().sheet(0, of, v));
        }
        NoteCounter x = new NoteCounter();
        for (int sheet = 0; sheet < 8; sheet++) {
            edge.is("there are so many", sheet, x.count(0));
            edge.is("one more", 60, x.sheet(sheet, sheet % 3, 60));
        }
        edge.is("all eight", 8, x.count(0));
        edge.is("an empty one is there", 0, new NoteCounter().sheet(0, BYTES, 0));
    }

    private void zerosAtFirst() {
        edge.promise(2, "SHEETS 0 .. 7 are missing (at first), or have a LANE (0 bytes, 1 shorts, 2 ints) and 0 to 60 ITEMS, "
            + "0 at first.");
        for (int lane = BYTES; lane <= INTS; lane++) {
            NoteCounter x = reader();
            x.sheet(4, lane, 60);
            items("new, LANE " + lane, x, 4, new int[60]);
            for (int i = 0; i < 60; i++) {
                x.set(4, i, 23);
            }
            x.sheet(4, lane, 60);
            items("in place of a full one, LANE " + lane, x, 4, new int[60]);
            x.set(4, 59, 23);
            x.drop(4);
            x.sheet(4, lane, 60);
            edge.is("behind a drop, LANE " + lane, 0, item(x, 4, 59));
        }
    }

    private void inPlace() {
        edge.promise(2, "A SHEET of a LANE with n ITEMS, in place of what is there: n.");
        NoteCounter x = new NoteCounter();
        x.sheet(0, INTS, 60);
        edge.is("a shorter one", 1, x.sheet(0, SHORTS, 1));
        edge.is("its last ITEM", 5, x.set(0, 0, 5));
        edge.is("beyond its end", Due.PLACE, x.set(0, 1, 5));
        edge.is("of the new LANE", -32768, x.set(0, 0, 32768));
        edge.is("an empty one", 0, x.sheet(0, BYTES, 0));
        edge.is("it has no ITEM", Due.PLACE, x.set(0, 0, 0));
        edge.is("a full one", 60, x.sheet(0, BYTES, 60));
        edge.is("of bytes", -128, x.set(0, 59, 128));
        edge.is("of ints again", 60, x.sheet(0, INTS, 60));
        edge.is("of ints", 128, x.set(0, 59, 128));
        edge.is("still one SHEET", 1, x.count(0));
        edge.is("with 60", 60, x.drop(0));
    }

    private void sheetRefused() {
        edge.promise(2, "BAD: SHEET, LANE, n above 60; SIZE.");
        NoteCounter x = new NoteCounter();
        x.sheet(0, INTS, 17);
        edge.is("SHEET ahead of SIZE", Due.BAD, x.sheet(8, BYTES, -1));
        edge.is("LANE ahead of SIZE", Due.BAD, x.sheet(0, 3, -1));
        edge.is("LANE below, ahead of SIZE", Due.BAD, x.sheet(0, -1, MIN));
        edge.is("n above 60", Due.BAD, x.sheet(0, BYTES, 61));
        edge.is("status of BAD", 0, x.status());
        edge.is("SIZE", Due.SIZE, x.sheet(0, BYTES, -1));
        edge.is("status of SIZE", 4, x.status());
        edge.is("SIZE on a missing one", Due.SIZE, x.sheet(1, BYTES, -1));
        edge.is("is missing still", Due.NULL, x.set(1, 0, 0));
        edge.is("of ints still", 128, x.set(0, 16, 128));
        edge.is("17 ITEMS still", 17, x.drop(0));
    }

    private void lowestBits() {
        edge.promise(3, "ITEM i becomes v, its lowest bits, as many as the LANE has: what it is then.");
        int[][] bytes = {{0, 0}, {127, 127}, {128, -128}, {129, -127}, {255, -1}, {256, 0}, {-1, -1}, {-128, -128},
            {-129, 127}, {-256, 0}, {-257, -1}, {32767, -1}, {MIN, 0}, {MAX, -1}, {MIN + 128, -128}};
        int[][] shorts = {{0, 0}, {128, 128}, {32767, 32767}, {32768, -32768}, {65535, -1}, {65536, 0}, {65537, 1}, {-1, -1},
            {-32768, -32768}, {-32769, 32767}, {-65536, 0}, {MIN, 0}, {MAX, -1}, {MIN + 32768, -32768}};
        int[][] ints = {{0, 0}, {32768, 32768}, {65536, 65536}, {-1, -1}, {MIN, MIN}, {MAX, MAX}};
        int[][][] lanes = {bytes, shorts, ints};
        NoteCounter x = new NoteCounter();
        for (int lane = BYTES; lane <= INTS; lane++) {
            x.sheet(lane, lane, 3);
            for (int[] pair : lanes[lane]) {
                edge.is("LANE " + lane + ", v " + pair[0], pair[1], x.set(lane, 1, pair[0]));
                edge.is("LANE " + lane + ", what it is, set again", pair[1], x.set(lane, 1, pair[1]));
            }
        }
        NoteCounter kept = reader();
        kept.sheet(0, BYTES, 3);
        kept.set(0, 1, 256 + 9);
        items("what it is then, is kept", kept, 0, 0, 9, 0);
    }

    private void setPlaces() {
        edge.promise(3, "BAD: SHEET; NULL; PLACE.");
        for (int n : new int[] {1, 2, 60}) {
            edge.taken("of " + n + ", i", 0, n - 1, v -> sheetOf(n).set(2, v, 4), v -> 4);
            edge.refusedBelow("of " + n + ", i", 0, Due.PLACE, v -> sheetOf(n).set(2, v, 4));
            edge.refusedAbove("of " + n + ", i", n - 1, Due.PLACE, v -> sheetOf(n).set(2, v, 4));
        }
        edge.is("of an empty one", Due.PLACE, sheetOf(0).set(2, 0, 4));
        edge.is("of an empty one, below", Due.PLACE, sheetOf(0).set(2, -1, 4));
    }

    private static NoteCounter sheetOf(int n) {
        NoteCounter x = new NoteCounter();
        x.sheet(2, BYTES, n);
        return x;
    }

    private void setRefused() {
        edge.promise(3, "BAD: SHEET; NULL; PLACE.");
        edge.taken("a SHEET that is there", 0, 7, SheetEdges::setOnAll, v -> 3);
        edge.refusedBelow("SHEET", 0, Due.BAD, SheetEdges::setOnAll);
        edge.refusedAbove("SHEET", 7, Due.BAD, SheetEdges::setOnAll);
        NoteCounter x = sheetOf(2);
        edge.is("SHEET ahead of PLACE", Due.BAD, x.set(8, -1, 0));
        edge.is("missing, the first", Due.NULL, x.set(0, 0, 0));
        edge.is("missing, the last", Due.NULL, x.set(7, 0, 0));
        edge.is("NULL ahead of PLACE", Due.NULL, x.set(3, -1, 0));
        edge.is("status of NULL", 1, x.status());
        edge.is("PLACE", Due.PLACE, x.set(2, 2, 0));
        edge.is("status of PLACE", 2, x.status());
        edge.is("BAD", Due.BAD, x.set(-1, 2, 0));
        edge.is("status behind BAD", 2, x.status());
        edge.is("taken", 1, x.set(2, 1, 1));
        edge.is("status of what is taken", 0, x.status());
    }

    private static int setOnAll(int sheet) {
        NoteCounter x = new NoteCounter();
        for (int i = 0; i < 8; i++) {
            x.sheet(i, SHORTS, 1);
        }
        return x.set(sheet, 0, 3);
    }

    /** SHEET 0 has 0 1 2 3 4, SHEET 1 has 10 11 12. */
    private static NoteCounter twoSheets() {
        NoteCounter x = reader();
        Due.lay(x, 0, 0, 1, 2, 3, 4);
        Due.lay(x, 1, 10, 11, 12);
        return x;
    }

    private void copyToTheEnds() {
        edge.promise(4, "n ITEMS of a from i on come to b from j on, as they were ahead: n.");
        NoteCounter x = twoSheets();
        edge.is("the last three to all of b", 3, x.copy(0, 2, 1, 0, 3));
        items("b", x, 1, 2, 3, 4);
        items("a", x, 0, 0, 1, 2, 3, 4);
        edge.is("the first one to the last place", 1, x.copy(0, 0, 1, 2, 1));
        items("b then", x, 1, 2, 3, 0);
        NoteCounter full = reader();
        full.sheet(6, INTS, 60);
        full.sheet(7, INTS, 60);
        full.set(6, 0, 7);
        full.set(6, 59, 9);
        edge.is("all of 60", 60, full.copy(6, 0, 7, 0, 60));
        edge.is("its first", 7, item(full, 7, 0));
        edge.is("its last", 9, item(full, 7, 59));
        edge.is("one more", Due.PLACE, full.copy(6, 0, 7, 0, 61));
    }

    private void copyOfNone() {
        edge.promise(4, "n ITEMS of a from i on come to b from j on, as they were ahead: n.");
        NoteCounter x = twoSheets();
        edge.is("none", 0, x.copy(0, 0, 1, 0, 0));
        edge.is("none at both ends", 0, x.copy(0, 5, 1, 3, 0));
        x.sheet(2, INTS, 0);
        x.sheet(3, INTS, 0);
        edge.is("none of an empty one", 0, x.copy(2, 0, 3, 0, 0));
        edge.is("none of an empty one to itself", 0, x.copy(2, 0, 2, 0, 0));
        edge.is("one of an empty one", Due.PLACE, x.copy(2, 0, 0, 0, 1));
        edge.is("one to an empty one", Due.PLACE, x.copy(0, 0, 2, 0, 1));
        items("a", x, 0, 0, 1, 2, 3, 4);
        items("b", x, 1, 10, 11, 12);
    }

    private void copyAsTheyWere() {
        edge.promise(4, "n ITEMS of a from i on come to b from j on, as they were ahead: n.");
        NoteCounter on = twoSheets();
        edge.is("onto itself, one on", 4, on.copy(0, 0, 0, 1, 4));
        items("one on", on, 0, 0, 0, 1, 2, 3);
        NoteCounter back = twoSheets();
        edge.is("onto itself, one back", 4, back.copy(0, 1, 0, 0, 4));
        items("one back", back, 0, 1, 2, 3, 4, 4);
        NoteCounter same = twoSheets();
        edge.is("onto itself, all", 5, same.copy(0, 0, 0, 0, 5));
        items("all", same, 0, 0, 1, 2, 3, 4);
        NoteCounter minus = new NoteCounter();
        minus.sheet(0, BYTES, 2);
        minus.set(0, 0, -1);
        minus.copy(0, 0, 0, 1, 1);
        minus.note(0, 1, 0, 0, 0);
        edge.is("an ITEM below 0 comes as it is", Due.BAD, minus.way(0, 0, 1, 1, 1, 0));
    }

    private void copyRefused() {
        edge.promise(4, "BAD: SHEETS; NULL; STORE; PLACE (i, j, n below 0, or beyond an end).");
        edge.range("a", 0, 7, 2, v -> eightSheets().copy(v, 0, 3, 0, 2));
        edge.range("b", 0, 7, 2, v -> eightSheets().copy(3, 0, v, 0, 2));
        edge.taken("i", 0, 2, v -> twoSheets().copy(0, v, 1, 0, 3), v -> 3);
        edge.refusedBelow("i", 0, Due.PLACE, v -> twoSheets().copy(0, v, 1, 0, 3));
        edge.refusedAbove("i", 2, Due.PLACE, v -> twoSheets().copy(0, v, 1, 0, 3));
        edge.taken("j", 0, 2, v -> twoSheets().copy(0, 0, 1, v, 1), v -> 1);
        edge.refusedBelow("j", 0, Due.PLACE, v -> twoSheets().copy(0, 0, 1, v, 1));
        edge.refusedAbove("j", 2, Due.PLACE, v -> twoSheets().copy(0, 0, 1, v, 1));
        edge.taken("n, by the end of b", 0, 3, v -> twoSheets().copy(0, 0, 1, 0, v), v -> v);
        edge.refusedBelow("n", 0, Due.PLACE, v -> twoSheets().copy(0, 0, 1, 0, v));
        edge.refusedAbove("n, by the end of b", 3, Due.PLACE, v -> twoSheets().copy(0, 0, 1, 0, v));
        edge.taken("n, by the end of a", 0, 2, v -> twoSheets().copy(0, 3, 1, 0, v), v -> v);
        edge.refusedAbove("n, by the end of a", 2, Due.PLACE, v -> twoSheets().copy(0, 3, 1, 0, v));
        edge.is("none, one beyond a's end", Due.PLACE, twoSheets().copy(0, 6, 1, 0, 0));
        edge.is("none, one beyond b's end", Due.PLACE, twoSheets().copy(0, 0, 1, 4, 0));
        edge.is("none from below", Due.PLACE, twoSheets().copy(0, -1, 1, 0, 0));
        edge.is("none to below", Due.PLACE, twoSheets().copy(0, 0, 1, -1, 0));
        edge.is("n below 0 that would end inside", Due.PLACE, twoSheets().copy(0, 2, 1, 2, -1));
        edge.is("i and n, wrapped around, are small", Due.PLACE, twoSheets().copy(0, MAX, 1, 0, MAX));
        edge.is("i and n, wrapped around, are 0", Due.PLACE, twoSheets().copy(0, MIN, 1, 0, MIN));
        edge.is("j and n, wrapped around, are small", Due.PLACE, twoSheets().copy(0, 0, 1, MAX, MAX));
        edge.is("i below, n above: the end is inside", Due.PLACE, twoSheets().copy(0, -1, 1, 0, 2));
    }

    private static NoteCounter eightSheets() {
        NoteCounter x = new NoteCounter();
        for (int i = 0; i < 8; i++) {
            x.sheet(i, INTS, 2);
        }
        return x;
    }

    private void copyOrder() {
        edge.promise(4, "BAD: SHEETS; NULL; STORE; PLACE (i, j, n below 0, or beyond an end).");
        NoteCounter x = twoSheets();
        x.sheet(2, SHORTS, 5);
        edge.is("BAD a ahead of NULL b", Due.BAD, x.copy(8, 0, 7, 0, 1));
        edge.is("NULL a, BAD b", Due.BAD, x.copy(7, 0, -1, 0, 1));
        edge.is("BAD ahead of PLACE", Due.BAD, x.copy(0, -1, 8, 0, 1));
        edge.is("status of BAD", 0, x.status());
        edge.is("NULL of a", Due.NULL, x.copy(7, 0, 0, 0, 1));
        edge.is("NULL of b", Due.NULL, x.copy(0, 0, 7, 0, 1));
        edge.is("NULL of both", Due.NULL, x.copy(7, 0, 6, 0, 1));
        edge.is("NULL of both, the same", Due.NULL, x.copy(7, 0, 7, 0, 0));
        edge.is("NULL ahead of PLACE", Due.NULL, x.copy(0, -1, 7, -1, -1));
        edge.is("status of NULL", 1, x.status());
        edge.is("STORE", Due.STORE, x.copy(0, 0, 2, 0, 1));
        edge.is("STORE the other way round", Due.STORE, x.copy(2, 0, 0, 0, 1));
        edge.is("STORE of none", Due.STORE, x.copy(0, 0, 2, 0, 0));
        edge.is("STORE ahead of PLACE", Due.STORE, x.copy(0, 6, 2, -1, MAX));
        edge.is("status of STORE", 5, x.status());
        for (int a = BYTES; a <= INTS; a++) {
            for (int b = BYTES; b <= INTS; b++) {
                NoteCounter lanes = new NoteCounter();
                lanes.sheet(0, a, 1);
                lanes.sheet(1, b, 1);
                edge.is("LANES " + a + " and " + b, a == b ? 1 : Due.STORE, lanes.copy(0, 0, 1, 0, 1));
            }
        }
        edge.is("PLACE", Due.PLACE, x.copy(0, 0, 1, 3, 1));
        edge.is("status of PLACE", 2, x.status());
        items("a is as it was", x, 0, 0, 1, 2, 3, 4);
        items("b is as it was", x, 1, 10, 11, 12);
    }

    private void drop() {
        edge.promise(5, "A SHEET is missing from now on: how many ITEMS it had.");
        edge.taken("n", 0, 60, SheetEdges::dropOf, v -> v);
        NoteCounter x = eightSheets();
        edge.is("the first", 2, x.drop(0));
        edge.is("the last", 2, x.drop(7));
        edge.is("six are left", 6, x.count(0));
        edge.is("missing for set", Due.NULL, x.set(0, 0, 0));
        edge.is("missing for copy from", Due.NULL, x.copy(7, 0, 1, 0, 0));
        edge.is("missing for copy to", Due.NULL, x.copy(1, 0, 7, 0, 0));
        edge.is("missing for rates", Due.NULL, x.rates(0, 7, 0));
        edge.is("missing for way", Due.NULL, x.way(0, 7, 0, 1, 1, 0));
        edge.is("missing for drop", Due.NULL, x.drop(7));
        edge.is("the next one is there", 2, x.drop(6));
        edge.is("there anew", 0, x.sheet(7, BYTES, 0));
        edge.is("and dropped anew", 0, x.drop(7));
    }

    private static int dropOf(int n) {
        NoteCounter x = new NoteCounter();
        x.sheet(4, SHORTS, n);
        return x.drop(4);
    }

    private void dropRefused() {
        edge.promise(5, "BAD; NULL.");
        edge.range("SHEET", 0, 7, 2, v -> eightSheets().drop(v));
        edge.range("a missing SHEET", 0, 7, Due.NULL, v -> new NoteCounter().drop(v));
        NoteCounter x = new NoteCounter();
        x.drop(3);
        edge.is("status of NULL", 1, x.status());
        x.sheet(3, BYTES, 1);
        edge.is("BAD", Due.BAD, x.drop(8));
        edge.is("status behind BAD", 0, x.status());
        edge.is("one SHEET still", 1, x.count(0));
    }
}
