import java.util.ArrayDeque;
import java.util.ArrayList;
import java.util.Comparator;
import java.util.HashSet;
import java.util.List;
import java.util.Set;
import java.util.TreeMap;
import java.util.TreeSet;
import java.util.function.ToIntFunction;
import java.util.regex.Matcher;
import java.util.regex.Pattern;
import java.util.stream.IntStream;

/**
 * The document written a second time, as plainly as the Java library lets, for tests to hold the program
 * against: it looks for answers by trying all there is, and keeps nothing that can be found anew.
 */
final class PlainCounter {
    private static final int NONE = Due.NONE, BAD = Due.BAD, STATE = Due.STATE, FULL = Due.FULL;

    private record Page(int lane, int[] items) { }
    private record Entry(String word, int week, int bank, int value) { }
    private record Hand(int trader, int week) { }
    private record Token(String kind, String text, int at) { }

    private static final class House {
        int town, gold, plate, need;
        boolean shut;
        TreeMap<Integer, Integer> held = new TreeMap<>();
    }

    private static final class Paper {
        int number, bank, sum, marks, worn;
        String state = "trader";
        int trader;
        boolean cut;
        int[] halves = new int[2];
        List<Hand> hands = new ArrayList<>();
    }

    /** A FAULT of a text. */
    private static final class Fault extends Exception {
        private static final long serialVersionUID = 1;
        final int number, place;

        Fault(int number, int place) {
            this.number = number;
            this.place = place;
        }
    }

    private final Page[] pages = new Page[8];
    private final int[][] roads = new int[6][6];
    private final List<House> houses = new ArrayList<>();
    private final List<Entry> entries = new ArrayList<>();
    private final List<Paper> papers = new ArrayList<>();
    private final int[] traderTown = new int[8];
    private final int[] traderTakes = {50, 50, 50, 50, 50, 50, 50, 50};
    private final int[][] rate = new int[6][8];
    private final List<Integer> trace = new ArrayList<>();
    private String tape = "";
    private int now = 0, fault = 0, finding = 0;

    private static boolean in(int v, int least, int most) {
        return least <= v && v <= most;
    }

    private int find(int number) {
        finding = number;
        return -1000010 - number;
    }

    private int ok(int answer) {
        finding = 0;
        return answer;
    }

    // ---- sheets

    int sheet(int s, int lane, int n) {
        if (!in(s, 0, 7) || !in(lane, 0, 2) || n > 60) return BAD;
        if (n < 0) return find(4);
        pages[s] = new Page(lane, new int[n]);
        return ok(n);
    }

    int set(int s, int i, int v) {
        if (!in(s, 0, 7)) return BAD;
        if (pages[s] == null) return find(1);
        if (!in(i, 0, pages[s].items.length - 1)) return find(2);
        int bits = new int[] {8, 16, 32}[pages[s].lane];
        pages[s].items[i] = v << 32 - bits >> 32 - bits;
        return ok(pages[s].items[i]);
    }

    int copy(int a, int i, int b, int j, int n) {
        if (!in(a, 0, 7) || !in(b, 0, 7)) return BAD;
        if (pages[a] == null || pages[b] == null) return find(1);
        if (pages[a].lane != pages[b].lane) return find(5);
        if (i < 0 || j < 0 || n < 0) return find(2);
        if ((long) i + n > pages[a].items.length || (long) j + n > pages[b].items.length) return find(2);
        int[] ahead = pages[a].items.clone();
        for (int k = 0; k < n; k++) pages[b].items[j + k] = ahead[i + k];
        return ok(n);
    }

    int drop(int s) {
        if (!in(s, 0, 7)) return BAD;
        if (pages[s] == null) return find(1);
        int n = pages[s].items.length;
        pages[s] = null;
        return ok(n);
    }

    // ---- towns, banks, books

    int road(int a, int b, int miles) {
        if (!in(a, 0, 5) || !in(b, 0, 5) || a == b || !in(miles, 0, 500)) return BAD;
        int had = roads[a][b];
        roads[a][b] = roads[b][a] = miles;
        return had;
    }

    int far(int a, int b) {
        if (!in(a, 0, 5) || !in(b, 0, 5)) return BAD;
        int least = walk(a, b, new HashSet<>());
        return least == Integer.MAX_VALUE ? NONE : least;
    }

    private int walk(int a, int b, Set<Integer> seen) {
        if (a == b) return 0;
        seen.add(a);
        int least = Integer.MAX_VALUE;
        for (int c = 0; c < 6; c++) {
            if (roads[a][c] > 0 && !seen.contains(c)) {
                int rest = walk(c, b, seen);
                if (rest != Integer.MAX_VALUE) least = Math.min(least, roads[a][c] + rest);
            }
        }
        seen.remove(a);
        return least;
    }

    int bank(int town, int gold, int plate) {
        if (!in(town, 0, 5) || !in(gold, 0, 99999) || !in(plate, 0, 255)) return BAD;
        if (houses.size() == 8) return FULL;
        House made = new House();
        made.town = town;
        made.gold = gold;
        made.plate = plate;
        houses.add(made);
        return houses.size() - 1;
    }

    private boolean noBank(int b) {
        return !in(b, 0, houses.size() - 1);
    }

    int house(int b, int what) {
        if (noBank(b) || !in(what, 0, 4)) return BAD;
        House h = houses.get(b);
        return new int[] {h.town, h.gold, h.plate, h.shut ? 1 : 0, h.need}[what];
    }

    int hold(int b, int other, int v) {
        if (noBank(b) || noBank(other) || !in(v, 0, b == other ? 99999 : 9999)) return BAD;
        House h = houses.get(b);
        if (b == other) {
            int was = h.need;
            h.need = v;
            return was;
        }
        Integer was = h.held.put(other, v);
        return was == null ? 0 : was;
    }

    int falls(int what) {
        if (!in(what, 0, 1)) return BAD;
        Set<Integer> fallen = new TreeSet<>();
        for (int b = 0; b < houses.size(); b++) if (houses.get(b).shut) fallen.add(b);
        int rounds = 0;
        while (true) {
            Set<Integer> falling = new TreeSet<>();
            for (int b = 0; b < houses.size(); b++) {
                House h = houses.get(b);
                int has = h.gold;
                for (var held : h.held.entrySet()) if (!fallen.contains(held.getKey())) has += held.getValue();
                if (!fallen.contains(b) && has < h.need) falling.add(b);
            }
            if (falling.isEmpty()) break;
            fallen.addAll(falling);
            rounds++;
        }
        return what == 1 ? rounds : fallen.stream().mapToInt(b -> 1 << b).sum();
    }

    int week(int w) {
        if (!in(w, now, 299)) return BAD;
        int was = now;
        now = w;
        return was;
    }

    int feed(long w, int n) {
        if (!in(n, 1, 8)) return BAD;
        if (tape.length() + n > 400) return FULL;
        String more = "";
        for (int k = 0; k < n; k++) more = (char) (w >> 8 * k & 255) + more;
        tape += more;
        return tape.length();
    }

    private static final Pattern TOKENS = Pattern.compile("(?<name>[a-z]+)|(?<number>[0-9]+)|(?<sign>;)|(?<none>[^ \n])");

    private static ArrayDeque<Token> tokens(String text) {
        ArrayDeque<Token> all = new ArrayDeque<>();
        Matcher m = TOKENS.matcher(text);
        while (m.find()) {
            String kind = m.group("name") != null ? "name" : m.group("number") != null ? "number"
                    : m.group("sign") != null ? "sign" : "none";
            if (kind.equals("number") && m.group().length() > 4) kind = "none";
            all.add(new Token(kind, m.group(), m.start()));
        }
        all.add(new Token("end", "", text.length()));
        return all;
    }

    private static int number(ArrayDeque<Token> left, int most) throws Fault {
        Token t = left.remove();
        if (!t.kind.equals("number")) throw new Fault(1, t.at);
        if (Integer.parseInt(t.text) > most) throw new Fault(2, t.at);
        return Integer.parseInt(t.text);
    }

    int books() {
        ArrayDeque<Token> left = tokens(tape);
        tape = "";
        List<Entry> fresh = new ArrayList<>();
        try {
            while (!left.peek().kind.equals("end")) book(left, fresh);
        } catch (Fault f) {
            fault = f.number;
            return -1000100 - f.place;
        }
        entries.addAll(fresh);
        return entries.size();
    }

    private void book(ArrayDeque<Token> left, List<Entry> fresh) throws Fault {
        Token first = left.remove();
        if (!first.text.equals("week")) throw new Fault(1, first.at);
        int ofWeek = number(left, 299);
        boolean some = false;
        while (!(some && left.peek().text.equals(";"))) {
            Token word = left.remove();
            if (!List.of("off", "false", "stopped").contains(word.text)) throw new Fault(1, word.at);
            if (entries.size() + fresh.size() == 40) throw new Fault(3, word.at);
            int b = number(left, houses.size() - 1);
            int value = number(left, word.text.equals("false") ? 255 : 100);
            fresh.add(new Entry(word.text, ofWeek, b, value));
            some = true;
        }
        left.remove();
    }

    int fault() {
        return fault;
    }

    private List<Entry> knownOf(String word, int bank, int town, int w) {
        int miles = far(0, town);
        if (miles == NONE) return List.of();
        return entries.stream().filter(e -> e.word.equals(word) && e.bank == bank && e.week <= w - miles / 100).toList();
    }

    private int last(String word, int bank, int town, int w, int otherwise) {
        // sorted() keeps the order of those of one WEEK, so the last one is the one told last.
        List<Entry> all = knownOf(word, bank, town, w).stream().sorted(Comparator.comparingInt(Entry::week)).toList();
        return all.isEmpty() ? otherwise : all.get(all.size() - 1).value;
    }

    int known(int town, int w, int bank, int what) {
        if (!in(town, 0, 5) || !in(w, 0, 299) || noBank(bank) || !in(what, 0, 2)) return BAD;
        if (what == 0) return last("off", bank, town, w, 0);
        if (what == 1) return last("stopped", bank, town, w, NONE);
        return knownOf("false", bank, town, w).size();
    }

    // ---- notes

    int note(int bank, int sum, int marks, int worn, int trader) {
        if (!in(bank, 0, 7) || !in(sum, 1, 100) || !in(marks, 0, 255) || !in(worn, 0, 255) || !in(trader, 0, 7)) return BAD;
        if (papers.size() == 24) return FULL;
        Paper made = new Paper();
        made.number = papers.size();
        made.bank = bank;
        made.sum = sum;
        made.marks = marks;
        made.worn = worn;
        made.trader = trader;
        made.hands.add(new Hand(trader, now));
        papers.add(made);
        return made.number;
    }

    private boolean noNote(int n) {
        return !in(n, 0, papers.size() - 1);
    }

    int told(int n, int what) {
        if (noNote(n) || !in(what, 0, 6)) return BAD;
        Paper p = papers.get(n);
        return new int[] {p.bank, p.sum, p.marks, p.worn, p.state.equals("trader") ? p.trader : NONE,
            p.state.equals("bank") ? 1 : 0, p.state.equals("lost") ? 1 : 0}[what];
    }

    private static boolean unlike(Paper p, int plate) {
        for (int bit = 0; bit < 8; bit++) {
            boolean worn = (p.worn >> bit & 1) == 1;
            if (!worn && (p.marks >> bit & 1) != (plate >> bit & 1)) return true;
        }
        return false;
    }

    int looks(int n, int town, int w) {
        if (noNote(n) || !in(town, 0, 5) || !in(w, 0, 299)) return BAD;
        Paper p = papers.get(n);
        if (noBank(p.bank) || unlike(p, houses.get(p.bank).plate)) return 0;
        if (p.worn == 0) return 1;
        List<Entry> plates = knownOf("false", p.bank, town, w);
        return !plates.isEmpty() && plates.stream().allMatch(e -> unlike(p, e.value)) ? 1 : 2;
    }

    int worth(int n, int town, int w) {
        int look = looks(n, town, w);
        if (look <= 0) return look;
        Paper p = papers.get(n);
        int pays = last("stopped", p.bank, town, w, NONE);
        if (pays != NONE) return p.sum * pays;
        int miles = far(town, houses.get(p.bank).town);
        if (miles == NONE) return 0;
        int left = 100 - last("off", p.bank, town, w, 0) - miles / 20;
        return left < 0 ? 0 : p.sum * left;
    }

    int hands(int n, int i, int what) {
        if (noNote(n) || i < -1 || !in(what, 0, 1)) return BAD;
        List<Hand> all = papers.get(n).hands;
        if (i == -1) return all.size();
        return i >= all.size() ? NONE : what == 0 ? all.get(i).trader : all.get(i).week;
    }

    // ---- traders

    int trader(int t, int town, int takes) {
        if (!in(t, 0, 7) || !in(town, 0, 5) || !in(takes, 0, 100)) return BAD;
        traderTown[t] = town;
        traderTakes[t] = takes;
        return 1;
    }

    private int hundred(Paper p, int town) {
        return worth(p.number, town, now) / p.sum;
    }

    int pay(int from, int to, int sum) {
        if (!in(from, 0, 7) || !in(to, 0, 7) || from == to || !in(sum, 1, 999)) return BAD;
        int handed = 0;
        while (handed < sum) {
            var worst = papers.stream()
                .filter(p -> p.state.equals("trader") && p.trader == from && p.hands.size() < 12)
                .filter(p -> hundred(p, traderTown[to]) >= traderTakes[to])
                .min(Comparator.comparingInt((Paper p) -> hundred(p, traderTown[from])).thenComparingInt(p -> p.number));
            if (worst.isEmpty()) break;
            worst.get().trader = to;
            worst.get().hands.add(new Hand(to, now));
            handed += worst.get().sum;
        }
        return handed;
    }

    int bears(int n, int weeks) {
        if (noNote(n) || !in(weeks, 0, 299)) return BAD;
        if (told(n, 4) == NONE) return STATE;
        ArrayDeque<Hand> left = new ArrayDeque<>(papers.get(n).hands);
        while (left.size() > 1 && left.getLast().week >= now - weeks) left.removeLast();
        return left.getLast().trader;
    }

    int home(int n) {
        if (noNote(n)) return BAD;
        Paper p = papers.get(n);
        if (told(n, 4) == NONE || noBank(p.bank)) return STATE;
        House h = houses.get(p.bank);
        if (p.marks != h.plate) {
            p.state = "lost";
            return 0;
        }
        p.state = "bank";
        if (h.gold < p.sum) h.shut = true;
        if (h.shut) return 0;
        h.gold -= p.sum;
        return p.sum;
    }

    int cut(int n, int to) {
        if (noNote(n) || !in(to, 0, 7) || told(n, 4) == to) return BAD;
        Paper p = papers.get(n);
        if (told(n, 4) == NONE || p.cut) return STATE;
        p.cut = true;
        p.state = "halved";
        p.halves[0] = p.trader;
        p.halves[1] = to;
        return 1;
    }

    int half(int n, int half, int to) {
        if (noNote(n) || !in(half, 0, 1) || (to != NONE && !in(to, 0, 7))) return BAD;
        Paper p = papers.get(n);
        if (!p.state.equals("halved") || p.halves[half] == NONE) return STATE;
        p.halves[half] = to;
        if (p.halves[0] == NONE && p.halves[1] == NONE) {
            p.state = "lost";
            return 0;
        }
        if (p.halves[0] == p.halves[1]) {
            p.state = "trader";
            p.trader = to;
            if (p.hands.get(p.hands.size() - 1).trader != to && p.hands.size() < 12) p.hands.add(new Hand(to, now));
            return p.sum;
        }
        return p.halves[0] == NONE || p.halves[1] == NONE ? p.sum / 2 : 0;
    }

    // ---- ways

    int rates(int town, int s, int i) {
        if (!in(town, 0, 5) || !in(s, 0, 7)) return BAD;
        if (pages[s] == null) return find(1);
        if (!in(i, 0, pages[s].items.length - 8)) return find(2);
        for (int k = 0; k < 8; k++) if (!in(pages[s].items[i + k], 0, 100)) return BAD;
        for (int k = 0; k < 8; k++) rate[town][k] = pages[s].items[i + k];
        return ok(8);
    }

    int way(int town, int s, int i, int n, int days, int what) {
        if (!in(town, 0, 5) || !in(s, 0, 7) || !in(n, 1, 8) || !in(days, 1, 6) || !in(what, 0, 1)) return BAD;
        if (pages[s] == null) return find(1);
        if (i < 0 || (long) i + n > pages[s].items.length) return find(2);
        List<Integer> list = IntStream.range(i, i + n).mapToObj(k -> pages[s].items[k]).toList();
        if (list.stream().anyMatch(this::noNote) || new HashSet<>(list).size() < n) return BAD;
        int most = -1, first = -1;
        for (int key = 0; key < 96; key++) {
            int all = goldOf(town, key / 16, key % 16, list, days, new HashSet<>(), new TreeMap<>());
            if (all > most) {
                most = all;
                first = key;
            }
        }
        return ok(what == 0 ? most : first);
    }

    /** The most gold from a day on that he begins so; -1: he cannot. */
    private int goldOf(int town, int to, int place, List<Integer> list, int days, Set<Integer> gone, TreeMap<String, Integer> seen) {
        if (to != town && (days == 1 || roads[town][to] == 0)) return -1;
        if (place != 15 && (place >= list.size() || gone.contains(place))) return -1;
        int gold = 0;
        Set<Integer> then = new TreeSet<>(gone);
        if (place != 15) {
            Paper p = papers.get(list.get(place));
            gold = p.sum * rate[town][p.bank] / 100;
            then.add(place);
        }
        if (days == 1) return gold;
        String key = to + " " + days + " " + then;
        Integer rest = seen.get(key);
        if (rest == null) {
            rest = -1;
            for (int next = 0; next < 96; next++) {
                rest = Math.max(rest, goldOf(to, next / 16, next % 16, list, days - 1, then, seen));
            }
            seen.put(key, rest);
        }
        return gold + rest;
    }

    // ---- asked

    int kind(int n) {
        if (noNote(n)) return BAD;
        Paper p = papers.get(n);
        if (p.state.equals("lost")) return 5;
        if (p.state.equals("halved")) return 4;
        if (noBank(p.bank)) return 3;
        if (unlike(p, houses.get(p.bank).plate)) return 2;
        return p.worn != 0 ? 1 : 0;
    }

    int as(int n, int kind) {
        if (noNote(n) || !in(kind, 0, 5)) return BAD;
        List<List<Integer>> are = List.of(List.of(0), List.of(1, 0), List.of(2, 0), List.of(3, 2, 0), List.of(4, 0), List.of(5, 0));
        return are.get(kind(n)).contains(kind) ? ok(papers.get(n).sum) : find(3);
    }

    /** The KINDS as Java classes, so that Java itself finds the BODY that begins. */
    private interface Asked {
        PlainCounter counter();

        Paper paper();

        default int size() {
            return counter().begin(10, paper().sum);
        }

        default int mark() {
            return counter().begin(20, paper().number);
        }
    }

    private static class Plain implements Asked {
        final PlainCounter counter;
        final Paper paper;

        Plain(PlainCounter counter, Paper paper) {
            this.counter = counter;
            this.paper = paper;
        }

        @Override public PlainCounter counter() {
            return counter;
        }

        @Override public Paper paper() {
            return paper;
        }
    }

    private static final class Worn extends Plain {
        Worn(PlainCounter counter, Paper paper) {
            super(counter, paper);
        }

        @Override public int size() {
            counter.begin(11, 0);
            return super.size() - Integer.bitCount(paper.worn);
        }
    }

    private static class False extends Plain {
        False(PlainCounter counter, Paper paper) {
            super(counter, paper);
        }

        @Override public int size() {
            counter.begin(12, 0);
            return -mark();
        }

        @Override public int mark() {
            counter.begin(21, 0);
            return super.mark() + 100;
        }
    }

    private static final class Ghost extends False {
        Ghost(PlainCounter counter, Paper paper) {
            super(counter, paper);
        }

        @Override public int size() {
            counter.begin(13, 0);
            return super.size() * 2;
        }

        @Override public int mark() {
            counter.begin(22, 0);
            return super.mark() + paper.bank;
        }
    }

    private static final class Halved extends Plain {
        Halved(PlainCounter counter, Paper paper) {
            super(counter, paper);
        }

        @Override public int size() {
            counter.begin(14, 0);
            return super.size() / 2;
        }
    }

    private static final class Dead extends Plain {
        Dead(PlainCounter counter, Paper paper) {
            super(counter, paper);
        }

        @Override public int mark() {
            counter.begin(23, 0);
            return super.mark() + size();
        }
    }

    private int begin(int body, int gives) {
        if (trace.size() < 16) trace.add(body);
        return gives;
    }

    int ask(int n, int what) {
        if (noNote(n) || !in(what, 0, 1)) return BAD;
        trace.clear();
        Paper p = papers.get(n);
        Asked asked = switch (kind(n)) {
            case 1 -> new Worn(this, p);
            case 2 -> new False(this, p);
            case 3 -> new Ghost(this, p);
            case 4 -> new Halved(this, p);
            case 5 -> new Dead(this, p);
            default -> new Plain(this, p);
        };
        return what == 0 ? asked.size() : asked.mark();
    }

    int trace(int i) {
        return in(i, 0, trace.size() - 1) ? trace.get(i) : NONE;
    }

    int count(int what) {
        ToIntFunction<String> are = state -> (int) papers.stream().filter(p -> p.state.equals(state)).count();
        return switch (what) {
            case 0 -> (int) java.util.Arrays.stream(pages).filter(p -> p != null).count();
            case 1 -> houses.size();
            case 2 -> (int) houses.stream().filter(h -> h.shut).count();
            case 3 -> entries.size();
            case 4 -> papers.size();
            case 5 -> are.applyAsInt("trader");
            case 6 -> are.applyAsInt("lost");
            case 7 -> are.applyAsInt("halved");
            case 8 -> tape.length();
            case 9 -> now;
            default -> BAD;
        };
    }

    int status() {
        return finding;
    }
}
