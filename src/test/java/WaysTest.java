import java.util.Random;

/** Promises 28 and 29. */
public final class WaysTest {
    private static final Due due = new Due();

    public static void main(String[] args) {
        rates();
        oneDay();
        goingOn();
        wayRefused();
        againstAllWays();
        due.end();
    }

    private static void rates() {
        NoteCounter x = new NoteCounter();
        x.note(7, 10, 0, 0, 0);
        Due.lay(x, 0, 0);
        Due.lay(x, 1, 101, 0, 100, 0, 0, 0, 0, 0, 50);
        due.is("none at first", 0, x.way(2, 0, 0, 1, 1, 0));
        due.is("from 1 on", 8, x.rates(2, 1, 1));
        due.is("sold by its bank's", 5, x.way(2, 0, 0, 1, 1, 0));
        due.is("not in another town", 0, x.way(3, 0, 0, 1, 1, 0));
        due.is("an ITEM of 101", Due.BAD, x.rates(2, 1, 0));
        x.set(1, 0, -1);
        due.is("an ITEM of -1", Due.BAD, x.rates(2, 1, 0));
        due.is("as they were", 5, x.way(2, 0, 0, 1, 1, 0));
        due.is("beyond the end", Due.PLACE, x.rates(2, 1, 2));
        due.is("i -1", Due.PLACE, x.rates(2, 1, -1));
        due.is("i MAX", Due.PLACE, x.rates(2, 1, Integer.MAX_VALUE));
        due.is("PLACE ahead of an ITEM", Due.PLACE, x.rates(2, 0, 0));
        due.is("missing", Due.NULL, x.rates(2, 3, 0));
        due.is("BAD town ahead of NULL", Due.BAD, x.rates(6, 3, 0));
        due.is("town -1", Due.BAD, x.rates(-1, 1, 1));
        due.is("sheet 8", Due.BAD, x.rates(2, 8, 0));
        x.set(1, 8, 0);
        due.is("the sheet changed, not they", 5, x.way(2, 0, 0, 1, 1, 0));
    }

    private static void oneDay() {
        NoteCounter x = new NoteCounter();
        x.note(0, 99, 0, 0, 0);
        x.note(1, 50, 0, 0, 0);
        Due.lay(x, 0, 0, 1);
        Due.lay(x, 1, 33, 66, 0, 0, 0, 0, 0, 0);
        x.rates(4, 1, 0);
        x.road(4, 0, 1);
        due.is("cut", 33, x.way(4, 0, 0, 2, 1, 0));
        due.is("the second, and he stays", 16 * 4 + 1, x.way(4, 0, 0, 2, 1, 1));
        due.is("the first alone", 32, x.way(4, 0, 0, 1, 1, 0));
        due.is("place 0", 16 * 4, x.way(4, 0, 0, 1, 1, 1));
        due.is("for nothing, but sold", 16 * 5, x.way(5, 0, 0, 2, 1, 1));
        due.is("two days there", 65, x.way(4, 0, 0, 2, 2, 0));
        due.is("he stays, and sells the first first", 16 * 4, x.way(4, 0, 0, 2, 2, 1));
    }

    private static void goingOn() {
        NoteCounter x = new NoteCounter();
        x.note(0, 100, 0, 0, 0);
        x.note(0, 10, 0, 0, 0);
        Due.lay(x, 0, 0, 1);
        Due.lay(x, 1, 50, 0, 0, 0, 0, 0, 0, 0);
        x.rates(0, 1, 0);
        Due.lay(x, 1, 90, 0, 0, 0, 0, 0, 0, 0);
        x.rates(1, 1, 0);
        due.is("no road", 55, x.way(0, 0, 0, 2, 2, 0));
        x.road(1, 0, 7);
        due.is("one here, one there", 95, x.way(0, 0, 0, 2, 2, 0));
        due.is("the small one first", 16 + 1, x.way(0, 0, 0, 2, 2, 1));
        due.is("both there", 99, x.way(0, 0, 0, 2, 3, 0));
        due.is("none at first", 16 + 15, x.way(0, 0, 0, 2, 3, 1));
        due.is("there is time to stay", 15, x.way(0, 0, 0, 2, 4, 1));
        due.is("one alone", 90, x.way(0, 0, 0, 1, 2, 0));
        due.is("goes with it", 16 + 15, x.way(0, 0, 0, 1, 2, 1));
    }

    private static void wayRefused() {
        NoteCounter x = new NoteCounter();
        x.note(0, 1, 0, 0, 0);
        x.note(0, 1, 0, 0, 0);
        Due.lay(x, 0, 0, 1, 0, 2, -1);
        due.is("town 6", Due.BAD, x.way(6, 0, 0, 1, 1, 0));
        due.is("town -1", Due.BAD, x.way(-1, 0, 0, 1, 1, 0));
        due.is("sheet 8", Due.BAD, x.way(0, 8, 0, 1, 1, 0));
        due.is("n 0", Due.BAD, x.way(0, 0, 0, 0, 1, 0));
        due.is("n 9", Due.BAD, x.way(0, 0, 0, 9, 1, 0));
        due.is("days 0", Due.BAD, x.way(0, 0, 0, 1, 0, 0));
        due.is("days 7", Due.BAD, x.way(0, 0, 0, 1, 7, 0));
        due.is("what 2", Due.BAD, x.way(0, 0, 0, 1, 1, 2));
        due.is("what -1", Due.BAD, x.way(0, 0, 0, 1, 1, -1));
        due.is("BAD ahead of NULL", Due.BAD, x.way(0, 3, 0, 9, 1, 0));
        due.is("missing", Due.NULL, x.way(0, 3, 0, 1, 1, 0));
        due.is("NULL ahead of PLACE", Due.NULL, x.way(0, 3, -1, 1, 1, 0));
        due.is("i -1", Due.PLACE, x.way(0, 0, -1, 1, 1, 0));
        due.is("beyond the end", Due.PLACE, x.way(0, 0, 4, 2, 1, 0));
        due.is("i MAX", Due.PLACE, x.way(0, 0, Integer.MAX_VALUE, 8, 1, 0));
        due.is("PLACE ahead of ITEMS", Due.PLACE, x.way(0, 0, 3, 3, 1, 0));
        due.is("two", 0, x.way(0, 0, 0, 2, 1, 0));
        due.is("told twice", Due.BAD, x.way(0, 0, 0, 3, 1, 0));
        due.is("no NOTE 2", Due.BAD, x.way(0, 0, 3, 1, 1, 0));
        due.is("no NOTE -1", Due.BAD, x.way(0, 0, 4, 1, 1, 0));
    }

    private static int[][] roads;
    private static int[][] gold;

    private static void againstAllWays() {
        Random random = new Random(29);
        for (int round = 0; round < 150; round++) {
            NoteCounter x = new NoteCounter();
            roads = new int[6][6];
            for (int i = 0; i < 7; i++) {
                int a = random.nextInt(6);
                int b = random.nextInt(6);
                if (a != b) {
                    roads[a][b] = roads[b][a] = 1 + random.nextInt(500);
                    x.road(a, b, roads[a][b]);
                }
            }
            int n = 1 + random.nextInt(round % 10 == 0 ? 8 : 5);
            int days = 1 + random.nextInt(round % 10 == 0 ? 6 : 4);
            tellGold(x, random, n);
            for (int town = 0; town < 6; town++) {
                int[] best = {-1, -1};
                tryAll(town, n, days, best);
                due.is("MOST of round " + round, best[0], x.way(town, 0, 0, n, days, 0));
                due.is("FIRST of round " + round, best[1], x.way(town, 0, 0, n, days, 1));
            }
        }
    }

    private static void tellGold(NoteCounter x, Random random, int n) {
        int[] sums = new int[n];
        int[] ofBanks = new int[n];
        for (int i = 0; i < n; i++) {
            sums[i] = 1 + random.nextInt(random.nextBoolean() ? 100 : 5);
            ofBanks[i] = random.nextInt(8);
            x.note(ofBanks[i], sums[i], 0, 0, 0);
        }
        gold = new int[6][n];
        for (int town = 0; town < 6; town++) {
            int[] rates = new int[8];
            for (int bank = 0; bank < 8; bank++) {
                rates[bank] = random.nextInt(3) == 0 ? 0 : random.nextInt(101);
            }
            Due.lay(x, 1, rates);
            x.rates(town, 1, 0);
            for (int i = 0; i < n; i++) {
                gold[town][i] = sums[i] * rates[ofBanks[i]] / 100;
            }
        }
        int[] list = new int[n];
        for (int i = 0; i < n; i++) {
            list[i] = i;
        }
        Due.lay(x, 0, list);
    }

    private static void tryAll(int town, int n, int days, int[] best) {
        for (int to = 0; to < 6; to++) {
            if (to != town && (days == 1 || roads[town][to] == 0)) {
                continue;
            }
            for (int sold = 0; sold <= n; sold++) {
                int now = sold < n ? gold[town][sold] : 0;
                int all = now + mostOf(to, n, days - 1, sold < n ? 1 << sold : 0);
                if (all > best[0]) {
                    best[0] = all;
                    best[1] = 16 * to + (sold < n ? sold : 15);
                }
            }
        }
    }

    private static int mostOf(int town, int n, int days, int gone) {
        if (days == 0) {
            return 0;
        }
        int most = 0;
        for (int sold = 0; sold <= n; sold++) {
            if (sold < n && (gone >> sold & 1) != 0) {
                continue;
            }
            int now = sold < n ? gold[town][sold] : 0;
            int then = sold < n ? gone | 1 << sold : gone;
            for (int to = 0; to < 6; to++) {
                if (to == town || (days > 1 && roads[town][to] != 0)) {
                    most = Math.max(most, now + mostOf(to, n, days - 1, then));
                }
            }
        }
        return most;
    }
}
