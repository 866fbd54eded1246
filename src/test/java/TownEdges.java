/** Boundary cases of promises 6 and 7. */
final class TownEdges {
    private final Edge edge;

    TownEdges(Edge edge) {
        this.edge = edge;
    }

    void run() {
        towns();
        miles();
        whatItHad();
        roadRefused();
        fewestMiles();
        farRefused();
    }

    private void towns() {
        edge.promise(6, "TOWNS 0 .. 5.");
        edge.range("a", 0, 5, 0, v -> new NoteCounter().road(v, 3, 9));
        edge.range("b", 0, 5, 0, v -> new NoteCounter().road(3, v, 9));
        NoteCounter x = new NoteCounter();
        x.road(0, 5, 9);
        edge.is("from the first to the last", 9, x.far(0, 5));
        edge.promise(7, "TOWNS 0 .. 5.");
        edge.range("a", 0, 5, v -> new NoteCounter().far(v, 3), v -> Due.NONE);
        edge.range("b", 0, 5, v -> new NoteCounter().far(3, v), v -> Due.NONE);
    }

    private static int farWithRoad(int miles) {
        NoteCounter x = new NoteCounter();
        x.road(1, 2, miles);
        return x.far(2, 1);
    }

    private void miles() {
        edge.promise(6, "ROADS between two of them have miles (1 to 500; none at first):");
        edge.range("miles", 0, 500, 0, v -> new NoteCounter().road(1, 2, v));
        edge.taken("far by miles", 1, 500, TownEdges::farWithRoad, v -> v);
        edge.is("far by none", Due.NONE, farWithRoad(0));
        edge.is("far by -1, refused", Due.NONE, farWithRoad(-1));
        edge.is("far by 501, refused", Due.NONE, farWithRoad(501));
    }

    private void whatItHad() {
        edge.promise(6, "A ROAD has so many miles (0: there is none): what it had (0: none).");
        NoteCounter x = new NoteCounter();
        edge.is("none at first, none still", 0, x.road(4, 5, 0));
        edge.is("still none", 0, x.road(4, 5, 1));
        edge.is("1", 1, x.road(4, 5, 500));
        edge.is("500, told from the other end", 500, x.road(5, 4, 500));
        edge.is("500 again", 500, x.road(4, 5, 0));
        edge.is("none", 0, x.road(5, 4, 0));
        edge.is("no way without it", Due.NONE, x.far(4, 5));
        x.road(0, 1, 10);
        x.road(1, 2, 10);
        edge.is("what a ROAD had, not how FAR", 0, x.road(0, 2, 500));
        edge.is("another ROAD is as it was", 10, x.road(1, 0, 10));
    }

    private void roadRefused() {
        edge.promise(6, "BAD (alike, too).");
        for (int town = 0; town < 6; town++) {
            edge.is("alike " + town, Due.BAD, new NoteCounter().road(town, town, 1));
            edge.is("alike, none " + town, Due.BAD, new NoteCounter().road(town, town, 0));
        }
        edge.is("alike, no TOWN", Due.BAD, new NoteCounter().road(6, 6, 1));
        edge.is("alike, below", Due.BAD, new NoteCounter().road(-1, -1, 1));
        NoteCounter x = new NoteCounter();
        x.road(0, 1, 7);
        x.road(0, 1, 501);
        x.road(0, 1, -1);
        x.road(0, 0, 3);
        edge.is("as it was", 7, x.far(0, 1));
        edge.is("what it had", 7, x.road(0, 1, 8));
        edge.is("0 from itself", 0, x.far(0, 0));
    }

    private void fewestMiles() {
        edge.promise(7, "FAR are two TOWNS the fewest miles over ROADS (0 from itself; NONE: there is no way).");
        NoteCounter x = new NoteCounter();
        for (int town = 0; town < 6; town++) {
            edge.is("from itself, without ROADS " + town, 0, x.far(town, town));
        }
        for (int town = 0; town < 5; town++) {
            x.road(town, town + 1, 500);
        }
        edge.is("the longest way", 2500, x.far(0, 5));
        edge.is("the other way round", 2500, x.far(5, 0));
        edge.is("from itself, with ROADS", 0, x.far(5, 5));
        x.road(0, 4, 500);
        edge.is("a ROAD that shortens", 1000, x.far(0, 5));
        x.road(0, 3, 499);
        edge.is("a ROAD that shortens only by one end", 1000, x.far(0, 5));
        edge.is("the same by either", 499, x.far(0, 3));
        x.road(3, 5, 500);
        edge.is("one mile less", 999, x.far(0, 5));
        x.road(3, 5, 501);
        edge.is("what is refused does not count", 999, x.far(0, 5));
        x.road(4, 5, 0);
        x.road(3, 5, 0);
        edge.is("no way", Due.NONE, x.far(0, 5));
        edge.is("no way from there", Due.NONE, x.far(5, 1));
        edge.is("the others are joined", 500, x.far(0, 4));
        for (int by = 0; by < 6; by++) {
            int from = (by + 5) % 6;
            int to = (by + 1) % 6;
            NoteCounter between = new NoteCounter();
            between.road(from, by, 1);
            between.road(by, to, 2);
            edge.is("by TOWN " + by + " alone", 3, between.far(from, to));
            between.road(from, to, 4);
            edge.is("by TOWN " + by + ", one mile less than straight", 3, between.far(to, from));
            between.road(from, to, 2);
            edge.is("straight, one mile less than by TOWN " + by, 2, between.far(to, from));
        }
        NoteCounter two = new NoteCounter();
        two.road(0, 1, 1);
        two.road(2, 3, 1);
        two.road(4, 5, 1);
        edge.is("in three parts", Due.NONE, two.far(1, 2));
        edge.is("within a part", 1, two.far(5, 4));
    }

    private void farRefused() {
        edge.promise(7, "FAR; NONE. BAD.");
        edge.is("both below", Due.BAD, new NoteCounter().far(-1, -1));
        edge.is("alike, but no TOWN", Due.BAD, new NoteCounter().far(6, 6));
        edge.is("one of them", Due.BAD, new NoteCounter().far(0, 6));
        edge.is("FAR", 0, new NoteCounter().far(5, 5));
        edge.is("NONE", Due.NONE, new NoteCounter().far(5, 0));
        NoteCounter x = new NoteCounter();
        x.sheet(0, 0, -1);
        x.far(0, 6);
        x.far(0, 5);
        edge.is("status stays", 4, x.status());
    }
}
