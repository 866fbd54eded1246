/** Promises 6 and 7. */
public final class TownsTest {
    private static final Due due = new Due();

    public static void main(String[] args) {
        road();
        refused();
        everyWay();
        due.end();
    }

    private static void road() {
        NoteCounter x = new NoteCounter();
        due.is("none had", 0, x.road(0, 1, 500));
        due.is("had 500, told the other way round", 500, x.road(1, 0, 7));
        due.is("had 7", 7, x.road(0, 1, 1));
        due.is("far", 1, x.far(1, 0));
        due.is("none any more: had 1", 1, x.road(0, 1, 0));
        due.is("far without", Due.NONE, x.far(0, 1));
        due.is("none had again", 0, x.road(0, 1, 0));
        x.road(0, 5, 300);
        x.road(5, 3, 100);
        due.is("over a third", 400, x.far(3, 0));
        x.road(0, 3, 399);
        due.is("straight", 399, x.far(0, 3));
        x.road(0, 3, 401);
        due.is("over a third again", 400, x.far(0, 3));
        x.road(5, 3, 0);
        due.is("straight again", 401, x.far(0, 3));
    }

    private static void refused() {
        NoteCounter x = new NoteCounter();
        due.is("alike", Due.BAD, x.road(2, 2, 1));
        due.is("alike, none", Due.BAD, x.road(2, 2, 0));
        due.is("a 6", Due.BAD, x.road(6, 0, 1));
        due.is("b -1", Due.BAD, x.road(0, -1, 1));
        due.is("miles -1", Due.BAD, x.road(0, 1, -1));
        due.is("miles 501", Due.BAD, x.road(0, 1, 501));
        due.is("nothing changed", 0, x.road(0, 1, 0));
        due.is("far 6", Due.BAD, x.far(6, 0));
        due.is("far -1", Due.BAD, x.far(0, -1));
        due.is("far 6 from itself", Due.BAD, x.far(6, 6));
    }

    /** The longest way goes through all the TOWNS. */
    private static void everyWay() {
        NoteCounter x = new NoteCounter();
        int[] row = {4, 0, 3, 5, 1, 2};
        for (int i = 0; i + 1 < row.length; i++) {
            x.road(row[i], row[i + 1], 500);
        }
        for (int i = 0; i < row.length; i++) {
            for (int j = 0; j < row.length; j++) {
                due.is("far along the row", 500 * Math.abs(i - j), x.far(row[i], row[j]));
            }
        }
    }
}
