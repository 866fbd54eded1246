/** What a test is due: it prints every call whose answer is another one, and ends with 1 if there was one. */
final class Due {
    static final int NULL = -1000011, PLACE = -1000012, KIND = -1000013, SIZE = -1000014, STORE = -1000015;
    static final int NONE = NoteCounter.NONE, BAD = NoteCounter.BAD, STATE = NoteCounter.STATE, FULL = NoteCounter.FULL;

    private int wrong = 0;
    private int asked = 0;

    void is(String call, long want, long got) {
        asked++;
        if (got != want) {
            wrong++;
            System.out.println(call + " answered " + got + ", due is " + want);
        }
    }

    void holds(String what, boolean so) {
        is(what, 1, so ? 1 : 0);
    }

    void end() {
        System.out.println(asked + " answers, " + wrong + " wrong");
        if (wrong != 0) {
            System.exit(1);
        }
    }

    /** Feeds a text, eight bytes at a time: the answer of the last feed. */
    static int type(NoteCounter x, String text) {
        int answer = 0;
        for (int at = 0; at < text.length(); at += 8) {
            int n = Math.min(8, text.length() - at);
            long w = 0;
            for (int i = 0; i < n; i++) {
                w = w << 8 | text.charAt(at + i) & 255;
            }
            answer = x.feed(w, n);
        }
        return answer;
    }

    static int read(NoteCounter x, String text) {
        type(x, text);
        return x.books();
    }

    /** A SHEET of ints with these ITEMS. */
    static void lay(NoteCounter x, int sheet, int... items) {
        x.sheet(sheet, 2, items.length);
        for (int i = 0; i < items.length; i++) {
            x.set(sheet, i, items[i]);
        }
    }
}
