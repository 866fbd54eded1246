import java.util.ArrayList;
import java.util.List;

/** Objects that have much to lose, and all the ways to look at them: two that were treated alike answer alike. */
final class World {
    static final int MOST_CALLS = 512;

    interface Call {
        int on(NoteCounter x);
    }

    private final List<Call> making = new ArrayList<>();
    private final List<List<Call>> looks = new ArrayList<>();

    private World() {
        looks.add(numbers());
        looks.add(known());
        looks.add(worths());
        for (int from = 0; from < 24; from += 8) {
            looks.add(hands(from));
        }
        looks.add(asks());
        looks.add(roadsHoldsTape());
        looks.add(items());
        looks.add(ratesOfTowns());
        looks.add(payments());
        looks.add(halves());
    }

    /**
     * Something of each, and NOTES in each state: 0 at its BANK, 1 LOST, 2 HALVED, 3 with one half LOST, 4 that was CUT,
     * 5 with 12 HANDS, 6 a GHOST, 7 WORN, 8 FALSE, 12 at a BANK that is SHUT.
     */
    static World mixed() {
        World world = new World();
        world.mixedTowns();
        world.mixedNotes();
        world.mixedSheets();
        return world;
    }

    /** As much of each as there can be, in the last WEEK. */
    static World full() {
        World world = new World();
        world.fullTowns();
        world.fullNotesAndSheets();
        return world;
    }

    NoteCounter make() {
        NoteCounter x = new NoteCounter();
        making.forEach(call -> call.on(x));
        return x;
    }

    int looks() {
        return looks.size();
    }

    int calls(int look) {
        return making.size() + looks.get(look).size();
    }

    int[] look(int look, NoteCounter x) {
        return looks.get(look).stream().mapToInt(call -> call.on(x)).toArray();
    }

    private void text(String text) {
        for (int at = 0; at < text.length(); at += 8) {
            String part = text.substring(at, Math.min(text.length(), at + 8));
            making.add(x -> Due.type(x, part));
        }
    }

    private void lay(int sheet, int lane, int... items) {
        making.add(x -> x.sheet(sheet, lane, items.length));
        for (int i = 0; i < items.length; i++) {
            int place = i;
            if (items[i] != 0) {
                making.add(x -> x.set(sheet, place, items[place]));
            }
        }
    }

    private void mixedTowns() {
        making.add(x -> x.road(0, 1, 120));
        making.add(x -> x.road(1, 2, 250));
        making.add(x -> x.road(0, 3, 499));
        making.add(x -> x.road(4, 5, 30));
        making.add(x -> x.bank(0, 300, 5));
        making.add(x -> x.bank(1, 50, 3));
        making.add(x -> x.bank(2, 0, 0));
        making.add(x -> x.bank(4, 99999, 255));
        making.add(x -> x.bank(3, 77, 5));
        making.add(x -> x.hold(0, 0, 310));
        making.add(x -> x.hold(0, 2, 40));
        making.add(x -> x.hold(1, 0, 60));
        making.add(x -> x.hold(1, 1, 100));
        making.add(x -> x.hold(4, 1, 9999));
        making.add(x -> x.hold(4, 4, 5000));
        text("week 300;");
        making.add(NoteCounter::books);
        text("week 2 off 0 9 false 0 4 off 1 20; week 5 stopped 1 30 off 0 35 false 0 7 off 4 3;");
        making.add(NoteCounter::books);
        text("week 9 off 1 5");
        for (int i = 0; i < 8; i++) {
            int trader = i;
            making.add(x -> x.trader(trader, trader % 6, trader * 9));
        }
        making.add(x -> x.week(7));
    }

    private void mixedNotes() {
        int[][] notes = {{0, 40, 5, 0}, {0, 41, 4, 0}, {0, 42, 5, 0}, {0, 43, 5, 0}, {0, 44, 5, 0}, {0, 1, 5, 0}, {6, 46, 5, 1},
            {0, 47, 5, 2}, {0, 48, 1, 0}, {1, 49, 3, 0}, {2, 50, 0, 0}, {4, 51, 5, 3}, {2, 52, 0, 0}, {3, 53, 255, 0}};
        for (int i = 0; i < notes.length; i++) {
            int[] note = notes[i];
            int trader = i == 5 ? 0 : 2 + i % 6;
            making.add(x -> x.note(note[0], note[1], note[2], note[3], trader));
        }
        for (int i = 1; i < 12; i++) {
            int hand = i;
            making.add(x -> x.trader(hand % 2, 0, 0));
            making.add(x -> x.pay((hand - 1) % 2, hand % 2, 1));
        }
        making.add(x -> x.home(0));
        making.add(x -> x.home(1));
        making.add(x -> x.cut(2, 7));
        making.add(x -> x.cut(3, 7));
        making.add(x -> x.half(3, 0, Due.NONE));
        making.add(x -> x.cut(4, 7));
        making.add(x -> x.half(4, 1, 6));
        making.add(x -> x.home(12));
        making.add(x -> x.week(12));
        making.add(x -> x.pay(3, 2, 40));
    }

    private void mixedSheets() {
        lay(0, 2, 0, 1, 2, 3, 4, 5, 6, 7, 8, 9, 10, 13);
        lay(1, 0, 3, -1, 100, 7, 127, -128, 13);
        lay(2, 1, 13, 0, 32767, -32768, 4);
        lay(3, 2);
        lay(5, 2, 10, 20, 30, 40, 50, 60, 70, 80, 90, 100, 101, 13);
        int[] all = new int[60];
        for (int i = 0; i < 60; i += 7) {
            all[i] = i % 14;
        }
        lay(6, 2, all);
        making.add(x -> x.rates(0, 5, 0));
        making.add(x -> x.rates(1, 5, 2));
        making.add(x -> x.rates(3, 5, 1));
        making.add(x -> x.ask(6, 0));
    }

    private void fullTowns() {
        for (int i = 0; i < 8; i++) {
            int bank = i;
            making.add(x -> x.bank(bank % 6, 99999, 255));
            making.add(x -> x.hold(bank, bank, 99999));
        }
        for (int i = 0; i < 8; i++) {
            int bank = i;
            making.add(x -> x.hold(bank, (bank + 1) % 8, 9999));
        }
        for (int i = 0; i < 5; i++) {
            int town = i;
            making.add(x -> x.road(town, town + 1, 500));
        }
        text("week 0" + "off0 1".repeat(40) + ";");
        making.add(NoteCounter::books);
        text("week 1 off 0 1");
        making.add(NoteCounter::books);
        text(" ".repeat(399) + ";");
        making.add(x -> x.week(299));
    }

    private void fullNotesAndSheets() {
        for (int i = 0; i < 24; i++) {
            int note = i;
            making.add(x -> x.note(note % 8, 77 + note, 255, 0, note % 8));
        }
        making.add(x -> x.home(22));
        making.add(x -> x.cut(21, 0));
        for (int i = 0; i < 8; i++) {
            int sheet = i;
            making.add(x -> x.sheet(sheet, 2, 60));
            making.add(x -> x.set(sheet, 59, sheet));
            making.add(x -> x.set(sheet, 0, 23 - sheet));
        }
        making.add(x -> x.rates(2, 1, 0));
        making.add(x -> x.ask(23, 1));
    }

    private static List<Call> numbers() {
        List<Call> all = new ArrayList<>();
        for (int i = 0; i < 10; i++) {
            int what = i;
            all.add(x -> x.count(what));
        }
        all.add(NoteCounter::fault);
        for (int i = 0; i < 17; i++) {
            int at = i;
            all.add(x -> x.trace(at));
        }
        for (int i = 0; i < 36; i++) {
            int pair = i;
            all.add(x -> x.far(pair / 6, pair % 6));
        }
        for (int i = 0; i < 40; i++) {
            int asked = i;
            all.add(x -> x.house(asked / 5, asked % 5));
        }
        all.add(x -> x.falls(0));
        all.add(x -> x.falls(1));
        for (int i = 0; i < 24 * 7; i++) {
            int asked = i;
            all.add(x -> x.told(asked / 7, asked % 7));
        }
        return all;
    }

    private static List<Call> known() {
        List<Call> all = new ArrayList<>();
        for (int i = 0; i < 6 * 8 * 3; i++) {
            int town = i / 24;
            int bank = i / 3 % 8;
            int what = i % 3;
            all.add(x -> x.known(town, 12, bank, what));
            all.add(x -> x.known(town, 3, bank, what));
        }
        return all;
    }

    private static List<Call> worths() {
        List<Call> all = new ArrayList<>();
        for (int i = 0; i < 24 * 6; i++) {
            int note = i / 6;
            int town = i % 6;
            all.add(x -> x.looks(note, town, 12));
            all.add(x -> x.worth(note, town, 12));
        }
        return all;
    }

    private static List<Call> hands(int from) {
        List<Call> all = new ArrayList<>();
        for (int i = from; i < from + 8; i++) {
            int note = i;
            for (int j = -1; j < 13; j++) {
                int hand = j;
                all.add(x -> x.hands(note, hand, 0));
                all.add(x -> x.hands(note, hand, 1));
            }
        }
        return all;
    }

    private static List<Call> asks() {
        List<Call> all = new ArrayList<>();
        for (int i = 0; i < 24; i++) {
            int note = i;
            all.add(x -> x.kind(note));
            all.add(x -> x.ask(note, 0));
            all.add(x -> x.ask(note, 1));
            for (int j = 0; j < 6; j++) {
                int kind = j;
                all.add(x -> x.as(note, kind));
            }
        }
        return all;
    }

    /** What can be seen only by changing it. */
    private static List<Call> roadsHoldsTape() {
        List<Call> all = new ArrayList<>();
        all.add(x -> x.feed(';', 1));
        all.add(NoteCounter::books);
        all.add(NoteCounter::fault);
        for (int i = 0; i < 36; i++) {
            int pair = i;
            all.add(x -> x.known(pair / 6, 12, 1, pair % 3));
            all.add(x -> x.road(pair / 6, pair % 6, 0));
        }
        for (int i = 0; i < 64; i++) {
            int pair = i;
            all.add(x -> x.hold(pair / 8, pair % 8, 0));
        }
        for (int i = 0; i < 300; i += 50) {
            int week = i;
            all.add(x -> x.week(week));
        }
        all.add(x -> x.bank(0, 1, 1));
        all.add(x -> x.note(0, 1, 1, 1, 1));
        return all;
    }

    /** An ITEM is seen as a NOTE of its own sum, or as no NOTE; the LANE by what it leaves of a number. */
    private static List<Call> items() {
        List<Call> all = new ArrayList<>();
        all.add(x -> x.rates(5, 5, 0));
        all.add(x -> x.rates(4, 5, 4));
        for (int s = 0; s < 8; s++) {
            int sheet = s;
            for (int i = 0; i < 12; i++) {
                int place = i;
                all.add(x -> x.way(0, sheet, place, 1, 1, 0));
            }
            all.add(x -> x.way(0, sheet, 59, 1, 1, 0));
            all.add(x -> x.rates(4, sheet, 2));
            all.add(x -> x.way(4, 0, 3, 1, 1, 0));
        }
        for (int i = 12; i < 60; i++) {
            int place = i;
            all.add(x -> x.way(0, 6, place, 1, 1, 0));
        }
        for (int s = 0; s < 8; s++) {
            int sheet = s;
            all.add(x -> x.set(sheet, 0, 74565));
            all.add(x -> x.drop(sheet));
        }
        return all;
    }

    private static List<Call> ratesOfTowns() {
        List<Call> all = new ArrayList<>();
        for (int town = 0; town < 6; town++) {
            int from = town;
            for (int i = 0; i < 12; i++) {
                int place = i;
                all.add(x -> x.way(from, 0, place, 1, 1, 0));
            }
            all.add(x -> x.way(from, 0, 0, 8, 6, 0));
            all.add(x -> x.way(from, 0, 0, 8, 6, 1));
        }
        return all;
    }

    private static List<Call> payments() {
        List<Call> all = new ArrayList<>();
        for (int i = 0; i < 24; i++) {
            int note = i;
            all.add(x -> x.bears(note, 0));
            all.add(x -> x.bears(note, 5));
        }
        for (int i = 0; i < 64; i++) {
            int pair = i;
            all.add(x -> x.pay(pair / 8, pair % 8, 60));
        }
        for (int i = 0; i < 24; i++) {
            int note = i;
            all.add(x -> x.told(note, 4));
            all.add(x -> x.hands(note, -1, 0));
        }
        return all;
    }

    private static List<Call> halves() {
        List<Call> all = new ArrayList<>();
        for (int i = 0; i < 24; i++) {
            int note = i;
            all.add(x -> x.half(note, 1, 6));
            all.add(x -> x.half(note, 0, 6));
            all.add(x -> x.cut(note, 3));
            all.add(x -> x.half(note, 0, 3));
            all.add(x -> x.home(note));
            all.add(x -> x.told(note, 5));
        }
        for (int i = 0; i < 8; i++) {
            int bank = i;
            all.add(x -> x.house(bank, 1));
            all.add(x -> x.house(bank, 3));
        }
        return all;
    }
}
