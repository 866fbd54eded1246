public final class NoteCounter {
    public static final int NONE = -1000000, BAD = -1000001, STATE = -1000002, FULL = -1000003;

    private static final int FINDINGS_BEGIN = -1000010, FAULT_PLACES_BEGIN = -1000100;
    private static final int NULL = 1, PLACE = 2, KIND = 3, SIZE = 4, STORE = 5;

    private static final int SHEETS = 8, TOWNS = 6, BANKS = 8, TRADERS = 8, NOTES = 24;
    private static final int MOST_MILES = 500, MOST_GOLD = 99999, MOST_HELD = 9999;
    private static final int ALL_MARKS = 255, LAST_WEEK = 299, HUNDRED = 100;
    private static final int MOST_SUM = 100, MOST_PAID = 999;
    private static final int MILES_A_WEEK = 100, MILES_A_HUNDREDTH = 20;
    private static final int WAY_NOTES = 8, WAY_DAYS = 6, BYTES_FED = 8;

    private static final int LOOKS_FALSE = 0, LOOKS_TRUE = 1, LOOKS_OPEN = 2;
    private static final int KIND_NOTE = 0, KIND_WORN = 1, KIND_FALSE = 2, KIND_GHOST = 3,
            KIND_HALVED = 4, KIND_DEAD = 5;

    /** By KIND: the BODY that begins when SIZE or MARK is asked. */
    private static final int[] SIZE_BODIES = {10, 11, 12, 13, 14, 10};
    private static final int[] MARK_BODIES = {20, 20, 21, 22, 20, 23};
    /** No ask of the document goes deeper than five BODIES. */
    private static final int DEEPEST_BODY = 16;

    private static final int NOT_OFFERED = -1;

    private final Sheet[] sheets = new Sheet[SHEETS];
    private final Roads roads = new Roads();
    private final Bank[] banks = new Bank[BANKS];
    private final Books entries = new Books();
    private final Tape tape = new Tape();
    private final BookReader reader = new BookReader(tape, entries);
    private final Note[] notes = new Note[NOTES];
    private final Trader[] traders = new Trader[TRADERS];
    private final int[] offers = new int[NOTES];
    private final int[] townRates = new int[TOWNS * BANKS];
    private final Drover drover = new Drover();
    private final Trace bodies = new Trace();
    private int bankCount = 0;
    private int noteCount = 0;
    private int theWeek = 0;
    private int latestFault = 0;
    private int latestFinding = 0;

    public NoteCounter() {
        for (int i = 0; i < SHEETS; i++) {
            sheets[i] = new Sheet();
        }
        for (int i = 0; i < TRADERS; i++) {
            traders[i] = new Trader();
        }
    }

    // ---- sheets

    public int sheet(int sheet, int lane, int n) {
        Sheet target = sheetOf(sheet);
        if (target == null || !isUpTo(lane, Sheet.INTS) || n > Sheet.MOST_ITEMS) {
            return BAD;
        }
        if (n < 0) {
            return found(SIZE);
        }
        target.begin(lane, n);
        return foundNothing(n);
    }

    public int set(int sheet, int i, int v) {
        Sheet target = sheetOf(sheet);
        if (target == null) {
            return BAD;
        }
        if (target.isMissing()) {
            return found(NULL);
        }
        if (!target.hasPlaces(i, 1)) {
            return found(PLACE);
        }
        return foundNothing(target.put(i, v));
    }

    public int copy(int a, int i, int b, int j, int n) {
        Sheet from = sheetOf(a);
        Sheet to = sheetOf(b);
        if (from == null || to == null) {
            return BAD;
        }
        if (from.isMissing() || to.isMissing()) {
            return found(NULL);
        }
        if (from.lane != to.lane) {
            return found(STORE);
        }
        if (!from.hasPlaces(i, n) || !to.hasPlaces(j, n)) {
            return found(PLACE);
        }
        System.arraycopy(from.items, i, to.items, j, n);
        return foundNothing(n);
    }

    public int drop(int sheet) {
        Sheet target = sheetOf(sheet);
        if (target == null) {
            return BAD;
        }
        if (target.isMissing()) {
            return found(NULL);
        }
        int had = target.length;
        target.discard();
        return foundNothing(had);
    }

    // ---- towns, banks, books

    public int road(int a, int b, int miles) {
        if (!isTown(a) || !isTown(b) || a == b || !isUpTo(miles, MOST_MILES)) {
            return BAD;
        }
        int had = roads.milesBetween(a, b);
        roads.build(a, b, miles);
        return had;
    }

    public int far(int a, int b) {
        if (!isTown(a) || !isTown(b)) {
            return BAD;
        }
        return roads.fewestMiles(a, b);
    }

    public int bank(int town, int gold, int plate) {
        if (!isTown(town) || !isUpTo(gold, MOST_GOLD) || !isUpTo(plate, ALL_MARKS)) {
            return BAD;
        }
        int number = bankCount;
        if (number >= BANKS) {
            return FULL;
        }
        banks[number] = new Bank(town, gold, plate);
        bankCount = number + 1;
        return number;
    }

    public int house(int bank, int what) {
        Bank asked = bankOf(bank);
        if (asked == null) {
            return BAD;
        }
        switch (what) {
            case 0: return asked.town;
            case 1: return asked.gold;
            case 2: return asked.plate;
            case 3: return asked.shut ? 1 : 0;
            case 4: return asked.need;
            default: return BAD;
        }
    }

    public int hold(int bank, int other, int v) {
        Bank holder = bankOf(bank);
        if (holder == null || bankOf(other) == null) {
            return BAD;
        }
        if (!isUpTo(v, bank == other ? MOST_GOLD : MOST_HELD)) {
            return BAD;
        }
        return bank == other ? holder.changeNeed(v) : holder.changeHeld(other, v);
    }

    public int falls(int what) {
        if (!isUpTo(what, 1)) {
            return BAD;
        }
        int fallen = shutBanks();
        int rounds = 0;
        // Each round but the last fells one BANK at least, so there are no more rounds than BANKS.
        for (int round = 0; round < BANKS; round++) {
            int after = fallen | banksInNeed(fallen);
            if (after == fallen) {
                break;
            }
            fallen = after;
            rounds++;
        }
        return what == 0 ? fallen : rounds;
    }

    public int week(int week) {
        if (week < theWeek || week > LAST_WEEK) {
            return BAD;
        }
        int was = theWeek;
        theWeek = week;
        return was;
    }

    public int feed(long w, int n) {
        if (n < 1 || n > BYTES_FED) {
            return BAD;
        }
        if (!tape.hasRoom(n)) {
            return FULL;
        }
        tape.append(w, n);
        return tape.length;
    }

    public int books() {
        int fault = reader.readTape(bankCount);
        int place = tape.tokenStart;
        tape.empty();
        if (fault != 0) {
            latestFault = fault;
            return FAULT_PLACES_BEGIN - place;
        }
        return entries.size;
    }

    public int fault() {
        return latestFault;
    }

    public int known(int town, int week, int bank, int what) {
        if (!isTown(town) || !isUpTo(week, LAST_WEEK) || bankOf(bank) == null) {
            return BAD;
        }
        int newest = newestBook(town, week);
        switch (what) {
            case 0: return entries.off(bank, newest);
            case 1: return entries.latest(Books.STOPPED, bank, newest);
            case 2: return entries.falsePlates(bank, newest);
            default: return BAD;
        }
    }

    // ---- notes

    public int note(int bank, int sum, int marks, int worn, int trader) {
        if (!isUpTo(bank, BANKS - 1) || sum < 1 || sum > MOST_SUM) {
            return BAD;
        }
        if (!isUpTo(marks, ALL_MARKS) || !isUpTo(worn, ALL_MARKS) || traderOf(trader) == null) {
            return BAD;
        }
        int number = noteCount;
        if (number >= NOTES) {
            return FULL;
        }
        Note made = new Note(number, bank, sum, marks, worn);
        made.handOn(trader, theWeek);
        notes[number] = made;
        noteCount = number + 1;
        return number;
    }

    public int told(int note, int what) {
        Note asked = noteOf(note);
        if (asked == null) {
            return BAD;
        }
        switch (what) {
            case 0: return asked.bank;
            case 1: return asked.sum;
            case 2: return asked.marks;
            case 3: return asked.worn;
            case 4: return asked.holder();
            case 5: return asked.where == Note.AT_BANK ? 1 : 0;
            case 6: return asked.where == Note.LOST ? 1 : 0;
            default: return BAD;
        }
    }

    public int looks(int note, int town, int week) {
        Note asked = noteOf(note);
        if (asked == null || !isTown(town) || !isUpTo(week, LAST_WEEK)) {
            return BAD;
        }
        Bank bank = bankOf(asked.bank);
        if (bank == null || asked.isUnlike(bank.plate)) {
            return LOOKS_FALSE;
        }
        if (asked.worn == 0 || entries.tellApart(asked, newestBook(town, week))) {
            return LOOKS_TRUE;
        }
        return LOOKS_OPEN;
    }

    public int worth(int note, int town, int week) {
        Note asked = noteOf(note);
        if (asked == null || !isTown(town) || !isUpTo(week, LAST_WEEK)) {
            return BAD;
        }
        return asked.sum * inTheHundred(asked, town, week);
    }

    public int hands(int note, int i, int what) {
        Note asked = noteOf(note);
        if (asked == null || i < -1 || !isUpTo(what, 1)) {
            return BAD;
        }
        if (i == -1) {
            return asked.handCount;
        }
        return what == 0 ? asked.handTrader(i) : asked.handWeek(i);
    }

    // ---- traders

    public int trader(int trader, int town, int takes) {
        Trader told = traderOf(trader);
        if (told == null || !isTown(town) || !isUpTo(takes, HUNDRED)) {
            return BAD;
        }
        told.town = town;
        told.takes = takes;
        return 1;
    }

    public int pay(int from, int to, int sum) {
        Trader payer = traderOf(from);
        Trader taker = traderOf(to);
        if (payer == null || taker == null || from == to || sum < 1 || sum > MOST_PAID) {
            return BAD;
        }
        offerNotes(from, payer.town, taker);
        int handed = 0;
        for (int turn = 0; turn < NOTES && handed < sum; turn++) {
            Note worst = noteOf(worstOffer());
            if (worst == null) {
                break;
            }
            offers[worst.number] = NOT_OFFERED;
            worst.handOn(to, theWeek);
            handed += worst.sum;
        }
        return handed;
    }

    public int bears(int note, int weeks) {
        Note asked = noteOf(note);
        if (asked == null || !isUpTo(weeks, LAST_WEEK)) {
            return BAD;
        }
        if (asked.where != Note.WITH_TRADER) {
            return STATE;
        }
        return asked.bearer(theWeek, weeks);
    }

    public int home(int note) {
        Note sent = noteOf(note);
        if (sent == null) {
            return BAD;
        }
        Bank bank = bankOf(sent.bank);
        if (sent.where != Note.WITH_TRADER || bank == null) {
            return STATE;
        }
        // The BANK knows its own PLATE: WORN marks hide nothing from it.
        if (sent.marks != bank.plate) {
            sent.where = Note.LOST;
            return 0;
        }
        sent.where = Note.AT_BANK;
        return bank.payOut(sent.sum);
    }

    public int cut(int note, int to) {
        Note asked = noteOf(note);
        if (asked == null || traderOf(to) == null || asked.holder() == to) {
            return BAD;
        }
        if (asked.where != Note.WITH_TRADER || asked.wasCut) {
            return STATE;
        }
        asked.halve(to);
        return 1;
    }

    public int half(int note, int half, int to) {
        Note asked = noteOf(note);
        if (asked == null || !isUpTo(half, 1) || (to != NONE && traderOf(to) == null)) {
            return BAD;
        }
        if (asked.where != Note.HALVED || asked.halfHolder(half) == NONE) {
            return STATE;
        }
        asked.moveHalf(half, to, theWeek);
        return asked.wouldBePaid();
    }

    // ---- ways

    public int rates(int town, int sheet, int i) {
        Sheet source = sheetOf(sheet);
        if (!isTown(town) || source == null) {
            return BAD;
        }
        if (source.isMissing()) {
            return found(NULL);
        }
        if (!source.hasPlaces(i, BANKS)) {
            return found(PLACE);
        }
        for (int bank = 0; bank < BANKS; bank++) {
            if (!isUpTo(source.items[i + bank], HUNDRED)) {
                return BAD;
            }
        }
        System.arraycopy(source.items, i, townRates, town * BANKS, BANKS);
        return foundNothing(BANKS);
    }

    public int way(int town, int sheet, int i, int n, int days, int what) {
        Sheet list = sheetOf(sheet);
        if (!isTown(town) || list == null || !isUpTo(what, 1)) {
            return BAD;
        }
        if (n < 1 || n > WAY_NOTES || days < 1 || days > WAY_DAYS) {
            return BAD;
        }
        if (list.isMissing()) {
            return found(NULL);
        }
        if (!list.hasPlaces(i, n)) {
            return found(PLACE);
        }
        if (!areDifferentNotes(list, i, n)) {
            return BAD;
        }
        for (int place = 0; place < n; place++) {
            tellDrover(place, noteOf(list.items[i + place]));
        }
        drover.plan(roads, town, n, days);
        return foundNothing(what == 0 ? drover.most : drover.first);
    }

    // ---- asked

    public int kind(int note) {
        Note asked = noteOf(note);
        return asked == null ? BAD : kindOf(asked);
    }

    public int as(int note, int kind) {
        Note asked = noteOf(note);
        if (asked == null || !isUpTo(kind, KIND_DEAD)) {
            return BAD;
        }
        if (!isOfKind(kindOf(asked), kind)) {
            return found(KIND);
        }
        return foundNothing(asked.sum);
    }

    public int ask(int note, int what) {
        Note asked = noteOf(note);
        if (asked == null || !isUpTo(what, 1)) {
            return BAD;
        }
        int kind = kindOf(asked);
        bodies.empty();
        return giveBody(what == 0 ? SIZE_BODIES[kind] : MARK_BODIES[kind], asked, kind, bodies, 0);
    }

    public int trace(int i) {
        return bodies.number(i);
    }

    public int count(int what) {
        switch (what) {
            case 0: return sheetsThere();
            case 1: return bankCount;
            case 2: return Integer.bitCount(shutBanks());
            case 3: return entries.size;
            case 4: return noteCount;
            case 5: return notesThatAre(Note.WITH_TRADER);
            case 6: return notesThatAre(Note.LOST);
            case 7: return notesThatAre(Note.HALVED);
            case 8: return tape.length;
            case 9: return theWeek;
            default: return BAD;
        }
    }

    public int status() {
        return latestFinding;
    }

    // ---- what the calls share

    private static boolean isUpTo(int v, int most) {
        return v >= 0 && v <= most;
    }

    private static boolean isTown(int town) {
        return isUpTo(town, TOWNS - 1);
    }

    private Sheet sheetOf(int sheet) {
        return isUpTo(sheet, SHEETS - 1) ? sheets[sheet] : null;
    }

    private Bank bankOf(int bank) {
        return isUpTo(bank, bankCount - 1) && bank < BANKS ? banks[bank] : null;
    }

    private Note noteOf(int note) {
        return isUpTo(note, noteCount - 1) && note < NOTES ? notes[note] : null;
    }

    private Trader traderOf(int trader) {
        return isUpTo(trader, TRADERS - 1) ? traders[trader] : null;
    }

    private int found(int finding) {
        latestFinding = finding;
        return FINDINGS_BEGIN - finding;
    }

    private int foundNothing(int answer) {
        latestFinding = 0;
        return answer;
    }

    private int sheetsThere() {
        int there = 0;
        for (int i = 0; i < SHEETS; i++) {
            Sheet sheet = sheetOf(i);
            if (sheet != null && !sheet.isMissing()) {
                there++;
            }
        }
        return there;
    }

    private int notesThatAre(int where) {
        int there = 0;
        for (int i = 0; i < noteCount; i++) {
            Note note = noteOf(i);
            if (note != null && note.where == where) {
                there++;
            }
        }
        return there;
    }

    private int shutBanks() {
        int shut = 0;
        for (int i = 0; i < bankCount; i++) {
            Bank bank = bankOf(i);
            if (bank != null && bank.shut) {
                shut |= 1 << i;
            }
        }
        return shut;
    }

    private int banksInNeed(int fallen) {
        int inNeed = 0;
        for (int i = 0; i < bankCount; i++) {
            Bank bank = bankOf(i);
            if (bank != null && bank.isInNeed(fallen)) {
                inNeed |= 1 << i;
            }
        }
        return inNeed;
    }

    /** The latest WEEK of which the BOOK has come to a TOWN; below 0, if none has. */
    private int newestBook(int town, int week) {
        int miles = roads.fewestMiles(0, town);
        return miles == NONE ? -1 : week - miles / MILES_A_WEEK;
    }

    /** WORTH by the sum: as WORTH is the sum times this, nothing needs to be divided. */
    private int inTheHundred(Note note, int town, int week) {
        Bank bank = bankOf(note.bank);
        if (bank == null || note.isUnlike(bank.plate)) {
            return 0;
        }
        int newest = newestBook(town, week);
        int stillPays = entries.latest(Books.STOPPED, note.bank, newest);
        if (stillPays != NONE) {
            return stillPays;
        }
        int miles = roads.fewestMiles(town, bank.town);
        if (miles == NONE) {
            return 0;
        }
        return Math.max(0, HUNDRED - entries.off(note.bank, newest) - miles / MILES_A_HUNDREDTH);
    }

    /** What is handed on changes no WORTH, so each NOTE is looked at once for a whole payment. */
    private void offerNotes(int from, int payerTown, Trader taker) {
        for (int i = 0; i < noteCount && i < NOTES; i++) {
            Note note = noteOf(i);
            offers[i] = NOT_OFFERED;
            if (note != null && note.holder() == from && !note.isFullOfHands()
                    && inTheHundred(note, taker.town, theWeek) >= taker.takes) {
                offers[i] = inTheHundred(note, payerTown, theWeek);
            }
        }
    }

    private int worstOffer() {
        int worst = NONE;
        int least = HUNDRED + 1;
        for (int i = 0; i < noteCount && i < NOTES; i++) {
            if (offers[i] != NOT_OFFERED && offers[i] < least) {
                least = offers[i];
                worst = i;
            }
        }
        return worst;
    }

    private boolean areDifferentNotes(Sheet list, int i, int n) {
        int seen = 0;
        for (int place = 0; place < n; place++) {
            int number = list.items[i + place];
            if (noteOf(number) == null || (seen >> number & 1) != 0) {
                return false;
            }
            seen |= 1 << number;
        }
        return true;
    }

    private void tellDrover(int place, Note note) {
        for (int town = 0; town < TOWNS && note != null; town++) {
            drover.tellGain(town, place, note.sum * townRates[town * BANKS + note.bank] / HUNDRED);
        }
    }

    private int kindOf(Note note) {
        if (note.where == Note.LOST) {
            return KIND_DEAD;
        }
        if (note.where == Note.HALVED) {
            return KIND_HALVED;
        }
        Bank bank = bankOf(note.bank);
        if (bank == null) {
            return KIND_GHOST;
        }
        if (note.isUnlike(bank.plate)) {
            return KIND_FALSE;
        }
        return note.worn != 0 ? KIND_WORN : KIND_NOTE;
    }

    private static boolean isOfKind(int told, int kind) {
        return kind == KIND_NOTE || kind == told || (kind == KIND_FALSE && told == KIND_GHOST);
    }

    private static int giveBody(int body, Note note, int kind, Trace trace, int depth) {
        if (depth >= DEEPEST_BODY) {
            return 0;
        }
        trace.leave(body);
        int deeper = depth + 1;
        switch (body) {
            case 10: return note.sum;
            case 11: return giveBody(10, note, kind, trace, deeper) - Integer.bitCount(note.worn);
            case 12: return 0 - giveBody(MARK_BODIES[kind], note, kind, trace, deeper);
            case 13: return 2 * giveBody(12, note, kind, trace, deeper);
            case 14: return giveBody(10, note, kind, trace, deeper) / 2;
            case 20: return note.number;
            case 21: return giveBody(20, note, kind, trace, deeper) + 100;
            case 22: return giveBody(21, note, kind, trace, deeper) + note.bank;
            case 23: return giveBody(20, note, kind, trace, deeper)
                    + giveBody(SIZE_BODIES[kind], note, kind, trace, deeper);
            default: return 0;
        }
    }

    private static final class Sheet {
        static final int BYTES = 0, SHORTS = 1, INTS = 2;
        static final int MOST_ITEMS = 60;
        private static final int NO_LANE = -1;

        final int[] items = new int[MOST_ITEMS];
        int lane = NO_LANE;
        int length = 0;

        boolean isMissing() {
            return lane == NO_LANE;
        }

        void begin(int newLane, int n) {
            lane = newLane;
            length = Math.min(n, MOST_ITEMS);
            for (int i = 0; i < length; i++) {
                items[i] = 0;
            }
        }

        void discard() {
            lane = NO_LANE;
            length = 0;
        }

        boolean hasPlaces(int i, int n) {
            return i >= 0 && n >= 0 && n <= length - i;
        }

        int put(int i, int v) {
            int kept = lane == BYTES ? (byte) v : lane == SHORTS ? (short) v : v;
            if (hasPlaces(i, 1)) {
                items[i] = kept;
            }
            return kept;
        }
    }

    private static final class Roads {
        /** Above all that five ROADS can have; two of it still fit an int. */
        private static final int NO_WAY = 1000000;

        private final int[] miles = new int[TOWNS * TOWNS];
        private final int[] fewest = new int[TOWNS * TOWNS];

        Roads() {
            measure();
        }

        int milesBetween(int a, int b) {
            return miles[a * TOWNS + b];
        }

        int fewestMiles(int a, int b) {
            int found = fewest[a * TOWNS + b];
            return found >= NO_WAY ? NONE : found;
        }

        void build(int a, int b, int howMany) {
            miles[a * TOWNS + b] = howMany;
            miles[b * TOWNS + a] = howMany;
            measure();
        }

        private void measure() {
            for (int a = 0; a < TOWNS; a++) {
                for (int b = 0; b < TOWNS; b++) {
                    int direct = milesBetween(a, b);
                    fewest[a * TOWNS + b] = a == b ? 0 : direct == 0 ? NO_WAY : direct;
                }
            }
            for (int by = 0; by < TOWNS; by++) {
                for (int a = 0; a < TOWNS; a++) {
                    for (int b = 0; b < TOWNS; b++) {
                        int round = fewest[a * TOWNS + by] + fewest[by * TOWNS + b];
                        fewest[a * TOWNS + b] = Math.min(fewest[a * TOWNS + b], round);
                    }
                }
            }
        }
    }

    private static final class Bank {
        final int town;
        final int plate;
        int gold;
        int need = 0;
        boolean shut = false;
        private final int[] held = new int[BANKS];

        Bank(int town, int gold, int plate) {
            this.town = town;
            this.gold = gold;
            this.plate = plate;
        }

        int changeNeed(int v) {
            int was = need;
            need = v;
            return was;
        }

        int changeHeld(int other, int v) {
            int was = held[other];
            held[other] = v;
            return was;
        }

        /** It holds nothing of itself, so its own place counts for nothing. */
        boolean isInNeed(int fallen) {
            int has = gold;
            for (int other = 0; other < BANKS; other++) {
                if ((fallen >> other & 1) == 0) {
                    has += held[other];
                }
            }
            return has < need;
        }

        int payOut(int sum) {
            if (shut) {
                return 0;
            }
            if (gold < sum) {
                shut = true;
                return 0;
            }
            gold -= sum;
            return sum;
        }
    }

    private static final class Books {
        static final int MOST_ENTRIES = 40;
        static final int OFF = 0, FALSE_PLATE = 1, STOPPED = 2;

        private final int[] words = new int[MOST_ENTRIES];
        private final int[] weeks = new int[MOST_ENTRIES];
        private final int[] ofBanks = new int[MOST_ENTRIES];
        private final int[] values = new int[MOST_ENTRIES];
        int size = 0;

        boolean hasRoomBehind(int more) {
            return size + more < MOST_ENTRIES;
        }

        /** Written behind those that count, it counts only when all the tape is read. */
        void write(int more, int word, int week, int bank, int value) {
            int at = size + more;
            if (at >= 0 && at < MOST_ENTRIES) {
                words[at] = word;
                weeks[at] = week;
                ofBanks[at] = bank;
                values[at] = value;
            }
        }

        void keep(int more) {
            size = Math.min(size + more, MOST_ENTRIES);
        }

        int latest(int word, int bank, int newest) {
            int value = NONE;
            int latestWeek = -1;
            for (int i = 0; i < size; i++) {
                if (isKnown(i, word, bank, newest) && weeks[i] >= latestWeek) {
                    latestWeek = weeks[i];
                    value = values[i];
                }
            }
            return value;
        }

        int off(int bank, int newest) {
            int by = latest(OFF, bank, newest);
            return by == NONE ? 0 : by;
        }

        int falsePlates(int bank, int newest) {
            int there = 0;
            for (int i = 0; i < size; i++) {
                if (isKnown(i, FALSE_PLATE, bank, newest)) {
                    there++;
                }
            }
            return there;
        }

        /** Whether there are false PLATES to hold a NOTE against, and it is none of theirs. */
        boolean tellApart(Note note, int newest) {
            boolean some = false;
            for (int i = 0; i < size; i++) {
                if (isKnown(i, FALSE_PLATE, note.bank, newest)) {
                    some = true;
                    if (!note.isUnlike(values[i])) {
                        return false;
                    }
                }
            }
            return some;
        }

        private boolean isKnown(int i, int word, int bank, int newest) {
            return words[i] == word && ofBanks[i] == bank && weeks[i] <= newest;
        }
    }

    private static final class Tape {
        static final int END = 0, NAME = 1, NUMBER = 2, SEMICOLON = 3, NO_TOKEN = 4;
        static final int MOST_BYTES = 400;
        private static final int MOST_FIGURES = 4;

        private final byte[] bytes = new byte[MOST_BYTES];
        private int position = 0;
        int length = 0;
        int token = END;
        int tokenStart = 0;
        int tokenNumber = 0;

        boolean hasRoom(int n) {
            return n <= MOST_BYTES - length;
        }

        void append(long w, int n) {
            for (int left = n - 1; left >= 0 && length < MOST_BYTES; left--) {
                bytes[length] = (byte) (w >>> (left * 8));
                length++;
            }
        }

        void empty() {
            length = 0;
        }

        void rewind() {
            position = 0;
        }

        void readToken() {
            int at = position;
            while (at < length && (bytes[at] == ' ' || bytes[at] == '\n')) {
                at++;
            }
            tokenStart = at;
            if (at >= length) {
                token = END;
                position = length;
            } else if (isAmong(at, 'a', 'z')) {
                token = NAME;
                position = endOfRun(at, 'a', 'z');
            } else if (isAmong(at, '0', '9')) {
                position = endOfRun(at, '0', '9');
                token = position - at > MOST_FIGURES ? NO_TOKEN : NUMBER;
                tokenNumber = token == NUMBER ? numberAt(at, position) : 0;
            } else {
                token = bytes[at] == ';' ? SEMICOLON : NO_TOKEN;
                position = at + 1;
            }
        }

        boolean isName(String word) {
            if (token != NAME || position - tokenStart != word.length()) {
                return false;
            }
            for (int i = 0; i < word.length(); i++) {
                if (bytes[tokenStart + i] != word.charAt(i)) {
                    return false;
                }
            }
            return true;
        }

        private boolean isAmong(int at, char first, char last) {
            return bytes[at] >= first && bytes[at] <= last;
        }

        private int endOfRun(int from, char first, char last) {
            int at = from;
            while (at < length && isAmong(at, first, last)) {
                at++;
            }
            return at;
        }

        private int numberAt(int from, int end) {
            int number = 0;
            for (int at = from; at < end; at++) {
                number = number * 10 + bytes[at] - '0';
            }
            return number;
        }
    }

    /** Reads TOKEN by TOKEN; what may stand next is all that it must remember between two. */
    private static final class BookReader {
        private static final int CANNOT_STAND = 1, NOT_AS_TOLD = 2, TOO_MANY = 3;
        private static final int A_BOOK = 0, A_WEEK = 1, AN_ENTRY = 2, A_BANK = 3, A_VALUE = 4,
                ENTRY_OR_END = 5;
        private static final int NO_WORD = -1;

        private final Tape tape;
        private final Books books;
        private int next = A_BOOK;
        private int bookWeek = 0;
        private int word = NO_WORD;
        private int ofBank = 0;
        private int written = 0;

        BookReader(Tape tape, Books books) {
            this.tape = tape;
            this.books = books;
        }

        /** The FAULT's number, its TOKEN being the tape's last one read; 0: there is none. */
        int readTape(int banks) {
            tape.rewind();
            next = A_BOOK;
            written = 0;
            // A TOKEN has a byte at least, but for the end.
            for (int turn = 0; turn <= Tape.MOST_BYTES; turn++) {
                tape.readToken();
                if (tape.token == Tape.END && next == A_BOOK) {
                    break;
                }
                int fault = step(banks);
                if (fault != 0) {
                    return fault;
                }
            }
            books.keep(written);
            return 0;
        }

        private int step(int banks) {
            switch (next) {
                case A_BOOK: return beginBook();
                case A_WEEK: return readWeek();
                case AN_ENTRY: return beginEntry();
                case A_BANK: return readBank(banks);
                case A_VALUE: return readValue();
                default: return tape.token == Tape.SEMICOLON ? go(A_BOOK) : beginEntry();
            }
        }

        private int go(int expected) {
            next = expected;
            return 0;
        }

        private int beginBook() {
            return tape.isName("week") ? go(A_WEEK) : CANNOT_STAND;
        }

        private int readWeek() {
            bookWeek = tape.tokenNumber;
            return readNumber(LAST_WEEK, AN_ENTRY);
        }

        private int beginEntry() {
            word = wordOfEntry();
            if (word == NO_WORD) {
                return CANNOT_STAND;
            }
            return books.hasRoomBehind(written) ? go(A_BANK) : TOO_MANY;
        }

        private int wordOfEntry() {
            if (tape.isName("off")) {
                return Books.OFF;
            }
            if (tape.isName("false")) {
                return Books.FALSE_PLATE;
            }
            return tape.isName("stopped") ? Books.STOPPED : NO_WORD;
        }

        private int readBank(int banks) {
            ofBank = tape.tokenNumber;
            return readNumber(banks - 1, A_VALUE);
        }

        private int readValue() {
            int fault = readNumber(word == Books.FALSE_PLATE ? ALL_MARKS : HUNDRED, ENTRY_OR_END);
            if (fault == 0) {
                books.write(written, word, bookWeek, ofBank, tape.tokenNumber);
                written++;
            }
            return fault;
        }

        private int readNumber(int most, int expectedThen) {
            if (tape.token != Tape.NUMBER) {
                return CANNOT_STAND;
            }
            return tape.tokenNumber <= most ? go(expectedThen) : NOT_AS_TOLD;
        }
    }

    private static final class Note {
        static final int WITH_TRADER = 0, AT_BANK = 1, LOST = 2, HALVED = 3;
        private static final int MOST_HANDS = 12;

        final int number;
        final int bank;
        final int sum;
        final int marks;
        final int worn;
        int where = WITH_TRADER;
        int handCount = 0;
        boolean wasCut = false;
        private int lastHolder = NONE;
        private int stayedWith = NONE;
        private int otherWith = NONE;
        private final int[] handTraders = new int[MOST_HANDS];
        private final int[] handWeeks = new int[MOST_HANDS];

        Note(int number, int bank, int sum, int marks, int worn) {
            this.number = number;
            this.bank = bank;
            this.sum = sum;
            this.marks = marks;
            this.worn = worn;
        }

        boolean isUnlike(int plate) {
            return ((marks ^ plate) & ~worn) != 0;
        }

        int holder() {
            return where == WITH_TRADER ? lastHolder : NONE;
        }

        boolean isFullOfHands() {
            return handCount >= MOST_HANDS;
        }

        void handOn(int to, int week) {
            where = WITH_TRADER;
            lastHolder = to;
            int at = handCount;
            if (at >= 0 && at < MOST_HANDS) {
                handTraders[at] = to;
                handWeeks[at] = week;
                handCount = at + 1;
            }
        }

        int handTrader(int i) {
            return i >= 0 && i < handCount ? handTraders[i] : NONE;
        }

        int handWeek(int i) {
            return i >= 0 && i < handCount ? handWeeks[i] : NONE;
        }

        int bearer(int thisWeek, int weeks) {
            int at = handCount - 1;
            for (int hand = at; hand > 0; hand--) {
                if (thisWeek - handWeek(hand) > weeks) {
                    break;
                }
                at = hand - 1;
            }
            return handTrader(at);
        }

        void halve(int to) {
            stayedWith = lastHolder;
            otherWith = to;
            wasCut = true;
            where = HALVED;
        }

        int halfHolder(int half) {
            return half == 0 ? stayedWith : otherWith;
        }

        void moveHalf(int half, int to, int week) {
            if (half == 0) {
                stayedWith = to;
            } else {
                otherWith = to;
            }
            if (stayedWith != otherWith) {
                return;
            }
            if (to == NONE) {
                where = LOST;
            } else if (handTrader(handCount - 1) == to) {
                where = WITH_TRADER;
                lastHolder = to;
            } else {
                handOn(to, week);
            }
        }

        int wouldBePaid() {
            if (where == LOST) {
                return 0;
            }
            if (where != HALVED) {
                return sum;
            }
            return stayedWith == NONE || otherWith == NONE ? sum / 2 : 0;
        }
    }

    private static final class Trader {
        int town = 0;
        int takes = 50;
    }

    /** Plans from the last day back, by the TOWN and the set of NOTES that are sold by then. */
    private static final class Drover {
        private static final int SETS = 1 << WAY_NOTES, NOTHING_SOLD = 15, TOWN_STEP = 16;

        private final int[] gains = new int[TOWNS * WAY_NOTES];
        private final int[] fromMorning = new int[TOWNS * SETS];
        private final int[] fromEvening = new int[TOWNS * SETS];
        private int carried = 0;
        private int sets = 1;
        int most = 0;
        int first = 0;

        void tellGain(int town, int place, int gold) {
            gains[town * WAY_NOTES + place] = gold;
        }

        void plan(Roads roads, int town, int n, int days) {
            carried = Math.min(n, WAY_NOTES);
            sets = 1 << carried;
            endTheWay();
            for (int day = days - 1; day > 0; day--) {
                planMornings(day);
                if (day > 1) {
                    planEvenings(roads, day - 1);
                }
            }
            chooseFirst(roads, town, days > 1);
        }

        private void endTheWay() {
            for (int town = 0; town < TOWNS; town++) {
                for (int sold = 0; sold < sets; sold++) {
                    fromEvening[town * SETS + sold] = 0;
                }
            }
        }

        /** By the morning of a day no more NOTES can be sold than there were days ahead of it. */
        private void planMornings(int day) {
            for (int sold = 0; sold < sets; sold++) {
                if (Integer.bitCount(sold) <= day) {
                    for (int town = 0; town < TOWNS; town++) {
                        fromMorning[town * SETS + sold] = bestSale(town, sold);
                    }
                }
            }
        }

        private int bestSale(int town, int sold) {
            int best = fromEvening[town * SETS + sold];
            for (int place = 0; place < carried; place++) {
                int then = sold | 1 << place;
                if (then != sold) {
                    int gold = gains[town * WAY_NOTES + place] + fromEvening[town * SETS + then];
                    best = Math.max(best, gold);
                }
            }
            return best;
        }

        private void planEvenings(Roads roads, int day) {
            for (int sold = 0; sold < sets; sold++) {
                if (Integer.bitCount(sold) <= day + 1) {
                    for (int town = 0; town < TOWNS; town++) {
                        fromEvening[town * SETS + sold] = bestMove(roads, town, sold);
                    }
                }
            }
        }

        private int bestMove(Roads roads, int town, int sold) {
            int best = 0;
            for (int to = 0; to < TOWNS; to++) {
                if (to == town || roads.milesBetween(town, to) > 0) {
                    best = Math.max(best, fromMorning[to * SETS + sold]);
                }
            }
            return best;
        }

        /** Tried from the least on, so that of several the first one that brings MOST stays. */
        private void chooseFirst(Roads roads, int town, boolean goesOn) {
            most = NONE;
            for (int to = 0; to < TOWNS; to++) {
                if (to == town || (goesOn && roads.milesBetween(town, to) > 0)) {
                    for (int place = 0; place < carried; place++) {
                        int then = goesOn ? fromMorning[to * SETS + (1 << place)] : 0;
                        keepIfMore(to, place, gains[town * WAY_NOTES + place] + then);
                    }
                    keepIfMore(to, NOTHING_SOLD, goesOn ? fromMorning[to * SETS] : 0);
                }
            }
        }

        private void keepIfMore(int to, int place, int gold) {
            if (gold > most) {
                most = gold;
                first = TOWN_STEP * to + place;
            }
        }
    }

    private static final class Trace {
        private static final int MOST_NUMBERS = 16;

        private final int[] numbers = new int[MOST_NUMBERS];
        private int length = 0;

        void empty() {
            length = 0;
        }

        void leave(int body) {
            int at = length;
            if (at >= 0 && at < MOST_NUMBERS) {
                numbers[at] = body;
                length = at + 1;
            }
        }

        int number(int i) {
            return i >= 0 && i < length ? numbers[i] : NONE;
        }
    }
}
