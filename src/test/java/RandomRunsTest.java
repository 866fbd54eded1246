import java.util.Random;

/** All promises: long random runs of calls, each answer held against the one of PlainCounter. */
public final class RandomRunsTest {
    private static final int RUNS = 600, CALLS = 512;
    private static final int[] WILD = {Integer.MIN_VALUE, Integer.MAX_VALUE, -1, -2, -1000000, 8, 24, 60, 61, 256, 300, 100000};
    private static final String[] WORDS = {"off", "off", "false", "stopped"};

    private static final Due due = new Due();
    private static Random random;
    private static NoteCounter x;
    private static PlainCounter y;
    /** One number in so many is a wild one; more of them leave less of a run to be seen. */
    private static int tame;

    public static void main(String[] args) {
        for (int run = 0; run < RUNS; run++) {
            random = new Random(run);
            x = new NoteCounter();
            y = new PlainCounter();
            tame = run % 4 == 0 ? 8 : run % 4 == 1 ? 40 : 400;
            for (int call = 0; call < (run % 4 == 3 ? 60 : 0); call++) {
                setUp(run);
            }
            for (int call = 0; call < CALLS; call++) {
                anyCall(run);
            }
            look(run);
        }
        due.end();
    }

    private static int n(int least, int most) {
        if (random.nextInt(tame) == 0) {
            return random.nextInt(3) == 0 ? WILD[random.nextInt(WILD.length)] : random.nextBoolean() ? least - 1 : most + 1;
        }
        return least + random.nextInt(most - least + 1);
    }

    private static int aNote() {
        return n(0, Math.max(0, y.count(4) - 1));
    }

    private static int aBank() {
        return n(0, Math.max(0, y.count(1) - 1));
    }

    /** Few marks, so that PLATES and NOTES are often alike. */
    private static int marks() {
        return random.nextInt(20) == 0 ? n(0, 255) : n(0, 3);
    }

    private static int worn() {
        return random.nextBoolean() ? 0 : marks();
    }

    private static void same(String call, long run, int want, int got) {
        due.is("run " + run + ": " + call, want, got);
    }

    private static void setUp(int run) {
        int[] calls = {4, 4, 6, 8, 13, 13, 13, 17, 11, 29};
        call(run, calls[random.nextInt(calls.length)]);
    }

    private static void anyCall(int run) {
        call(run, random.nextInt(37));
    }

    private static void call(int run, int which) {
        if (which < 4) {
            sheetCall(run, which);
        } else if (which < 13) {
            townCall(run, which);
        } else if (which < 18) {
            noteCall(run, which);
        } else if (which < 28) {
            traderCall(run, which);
        } else {
            otherCall(run, which);
        }
    }

    private static void sheetCall(int run, int which) {
        int s = n(0, 7), a = n(0, 2), b = n(0, 12), c = n(0, 7), d = n(0, 12), e = n(0, 8);
        switch (which) {
            case 0 -> {
                int size = n(0, 60);
                same("sheet", run, y.sheet(s, a, size), x.sheet(s, a, size));
            }
            case 1 -> {
                int v = random.nextInt(4) == 0 ? random.nextInt() : n(0, 100);
                same("set", run, y.set(s, b, v), x.set(s, b, v));
            }
            case 2 -> same("copy", run, y.copy(s, b, c, d, e), x.copy(s, b, c, d, e));
            default -> {
                if (random.nextInt(4) == 0) same("drop", run, y.drop(s), x.drop(s));
                same("status", run, y.status(), x.status());
            }
        }
    }

    private static void townCall(int run, int which) {
        int a = n(0, 5), b = n(0, 5), what = n(0, 4);
        switch (which) {
            case 4 -> {
                int miles = n(0, 500);
                same("road", run, y.road(a, b, miles), x.road(a, b, miles));
            }
            case 5 -> same("far", run, y.far(a, b), x.far(a, b));
            case 6 -> {
                if (random.nextInt(3) != 0 && y.count(1) > 4) return;
                int gold = random.nextBoolean() ? n(0, 200) : n(0, 99999), plate = marks();
                same("bank", run, y.bank(a, gold, plate), x.bank(a, gold, plate));
            }
            case 7 -> {
                int bank = aBank();
                same("house", run, y.house(bank, what), x.house(bank, what));
            }
            case 8 -> {
                int bank = aBank(), other = aBank(), v = random.nextBoolean() ? n(0, 300) : n(0, 9999);
                same("hold", run, y.hold(bank, other, v), x.hold(bank, other, v));
            }
            case 9 -> {
                int round = n(0, 1);
                same("falls", run, y.falls(round), x.falls(round));
            }
            case 10 -> {
                int w = y.count(9) + n(0, 3);
                same("week", run, y.week(w), x.week(w));
            }
            case 11 -> books(run);
            default -> {
                int w = Math.min(299, n(0, 40)), bank = aBank(), of = n(0, 2);
                same("known", run, y.known(a, w, bank, of), x.known(a, w, bank, of));
            }
        }
    }

    private static void books(int run) {
        StringBuilder text = new StringBuilder();
        int many = 1 + random.nextInt(2);
        for (int book = 0; book < many; book++) {
            text.append("week ").append(Math.abs(n(0, 30)));
            int size = 1 + random.nextInt(3);
            for (int i = 0; i < size; i++) {
                String word = WORDS[random.nextInt(WORDS.length)];
                int value = word.equals("false") ? marks() : n(0, 100);
                text.append(random.nextInt(9) == 0 ? "\n" : " ").append(word).append(' ').append(Math.abs(aBank()));
                text.append(' ').append(Math.abs(value));
            }
            text.append(";");
        }
        if (random.nextInt(3) == 0) {
            int at = random.nextInt(text.length());
            switch (random.nextInt(3)) {
                case 0 -> text.deleteCharAt(at);
                case 1 -> text.insert(at, (char) random.nextInt(256));
                default -> text.insert(at, " off;week0;9".charAt(random.nextInt(12)));
            }
        }
        for (int at = 0; at < text.length(); at += 8) {
            int n = Math.min(8, text.length() - at);
            long w = random.nextLong();
            for (int i = 0; i < n; i++) {
                w = w << 8 | text.charAt(at + i);
            }
            int bytes = random.nextInt(4 * tame) == 0 ? n(1, 8) : n;
            same("feed", run, y.feed(w, bytes), x.feed(w, bytes));
        }
        if (random.nextInt(6) != 0) {
            same("books of " + text, run, y.books(), x.books());
            same("fault of " + text, run, y.fault(), x.fault());
        }
    }

    private static void noteCall(int run, int which) {
        int note = aNote(), town = n(0, 5), w = n(0, 40);
        switch (which) {
            case 13 -> {
                if (random.nextInt(3) == 0) return;
                int bank = random.nextInt(6) == 0 ? n(0, 7) : aBank(), sum = n(1, 100), marks = marks(), worn = worn(), t = n(0, 3);
                same("note", run, y.note(bank, sum, marks, worn, t), x.note(bank, sum, marks, worn, t));
            }
            case 14 -> {
                int what = n(0, 6);
                same("told", run, y.told(note, what), x.told(note, what));
            }
            case 15 -> same("looks", run, y.looks(note, town, w), x.looks(note, town, w));
            case 16 -> same("worth", run, y.worth(note, town, w), x.worth(note, town, w));
            default -> {
                int i = n(-1, 12), what = n(0, 1);
                same("hands", run, y.hands(note, i, what), x.hands(note, i, what));
            }
        }
    }

    private static void traderCall(int run, int which) {
        int note = aNote(), t = n(0, 3), to = n(0, 3);
        switch (which) {
            case 18 -> {
                int town = n(0, 5), takes = random.nextBoolean() ? n(0, 60) : n(0, 100);
                same("trader", run, y.trader(t, town, takes), x.trader(t, town, takes));
            }
            case 19, 20, 21, 22 -> {
                int sum = random.nextInt(5) == 0 ? n(1, 999) : n(1, 60);
                same("pay", run, y.pay(t, to, sum), x.pay(t, to, sum));
            }
            case 23 -> {
                int weeks = random.nextBoolean() ? n(0, 12) : n(0, 299);
                same("bears", run, y.bears(note, weeks), x.bears(note, weeks));
            }
            case 24 -> {
                if (random.nextInt(3) == 0) same("home", run, y.home(note), x.home(note));
            }
            case 25 -> {
                if (random.nextInt(3) == 0) same("cut", run, y.cut(note, to), x.cut(note, to));
            }
            default -> {
                int half = n(0, 1), goes = random.nextInt(5) == 0 ? Due.NONE : to;
                same("half", run, y.half(note, half, goes), x.half(note, half, goes));
            }
        }
    }

    private static void otherCall(int run, int which) {
        int note = aNote(), town = n(0, 5), s = n(0, 7), i = n(0, 6), what = n(0, 1);
        switch (which) {
            case 28, 29 -> {
                if (random.nextInt(3) != 0) layRates(run, s);
                same("rates", run, y.rates(town, s, i), x.rates(town, s, i));
            }
            case 30 -> {
                int many = n(1, 8), days = n(1, random.nextInt(4) == 0 ? 6 : 3);
                if (random.nextInt(4) != 0) layNotes(run, s);
                same("way", run, y.way(town, s, i, many, days, what), x.way(town, s, i, many, days, what));
                same("way, too", run, y.way(town, s, i, many, days, 1 - what), x.way(town, s, i, many, days, 1 - what));
            }
            case 31 -> same("kind", run, y.kind(note), x.kind(note));
            case 32 -> {
                int kind = n(0, 5);
                same("as", run, y.as(note, kind), x.as(note, kind));
            }
            case 33 -> same("ask", run, y.ask(note, what), x.ask(note, what));
            case 34 -> same("trace", run, y.trace(i), x.trace(i));
            case 35 -> {
                int of = n(0, 9);
                same("count", run, y.count(of), x.count(of));
            }
            default -> same("status", run, y.status(), x.status());
        }
    }

    private static void layRates(int run, int s) {
        same("sheet", run, y.sheet(s, 1, 14), x.sheet(s, 1, 14));
        for (int i = 0; i < 14; i++) {
            int v = random.nextInt(20 * tame) == 0 ? 101 : random.nextInt(101);
            same("set", run, y.set(s, i, v), x.set(s, i, v));
        }
    }

    private static void layNotes(int run, int s) {
        same("sheet", run, y.sheet(s, 0, 14), x.sheet(s, 0, 14));
        int from = random.nextInt(24);
        for (int i = 0; i < 14; i++) {
            int v = (from + 5 * i) % Math.max(1, y.count(4));
            same("set", run, y.set(s, i, v), x.set(s, i, v));
        }
    }

    /** All that can be seen at the end of a run. */
    private static void look(int run) {
        for (int what = 0; what < 10; what++) {
            same("count at the end", run, y.count(what), x.count(what));
        }
        for (int note = 0; note < y.count(4); note++) {
            for (int what = 0; what < 7; what++) {
                same("told at the end", run, y.told(note, what), x.told(note, what));
            }
            for (int i = -1; i < 13; i++) {
                same("hands at the end", run, y.hands(note, i, 0), x.hands(note, i, 0));
                same("weeks at the end", run, y.hands(note, i, 1), x.hands(note, i, 1));
            }
            for (int town = 0; town < 6; town++) {
                same("looks at the end", run, y.looks(note, town, 20), x.looks(note, town, 20));
                same("worth at the end", run, y.worth(note, town, 20), x.worth(note, town, 20));
            }
            same("kind at the end", run, y.kind(note), x.kind(note));
        }
        for (int bank = 0; bank < y.count(1); bank++) {
            for (int what = 0; what < 5; what++) {
                same("house at the end", run, y.house(bank, what), x.house(bank, what));
            }
        }
        same("falls at the end", run, y.falls(0), x.falls(0));
        same("rounds at the end", run, y.falls(1), x.falls(1));
        same("status at the end", run, y.status(), x.status());
    }
}
