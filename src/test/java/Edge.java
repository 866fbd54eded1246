import java.util.function.IntUnaryOperator;

/** Checks of boundary cases, each under the number of its promise and the sentence of the document that it tests. */
final class Edge {
    static final int MIN = Integer.MIN_VALUE, MAX = Integer.MAX_VALUE;

    private final Due due = new Due();
    private final Sentences sentences = new Sentences();
    private String heading = "";
    private int answersHere = 1;

    /** All that follows is due by this sentence, which stands in the promise or in the document's Terms. */
    void promise(int number, String sentence) {
        endSentence();
        sentences.quote(number, sentence);
        heading = "promise " + number + ", '" + shortened(sentence) + "': ";
        answersHere = 0;
    }

    void is(String call, long want, long got) {
        answersHere++;
        due.is(heading + call, want, got);
    }

    /** The first and the last value that are taken; each is tried by a call of its own on a new object. */
    void taken(String number, int least, int most, IntUnaryOperator call, IntUnaryOperator want) {
        is(number + " " + least + ", the least taken", want.applyAsInt(least), call.applyAsInt(least));
        is(number + " " + most + ", the most taken", want.applyAsInt(most), call.applyAsInt(most));
    }

    void refusedBelow(String number, int least, int refusal, IntUnaryOperator call) {
        is(number + " " + (least - 1) + ", the first below", refusal, call.applyAsInt(least - 1));
        is(number + " " + MIN, refusal, call.applyAsInt(MIN));
    }

    void refusedAbove(String number, int most, int refusal, IntUnaryOperator call) {
        is(number + " " + (most + 1) + ", the first above", refusal, call.applyAsInt(most + 1));
        is(number + " " + MAX, refusal, call.applyAsInt(MAX));
    }

    /** Both ends of a number that is BAD outside of them. */
    void range(String number, int least, int most, IntUnaryOperator call, IntUnaryOperator want) {
        taken(number, least, most, call, want);
        refusedBelow(number, least, Due.BAD, call);
        refusedAbove(number, most, Due.BAD, call);
    }

    void range(String number, int least, int most, int want, IntUnaryOperator call) {
        range(number, least, most, call, v -> want);
    }

    void end() {
        endSentence();
        heading = "";
        sentences.check(due);
        due.end();
    }

    private void endSentence() {
        due.holds(heading + "a sentence without a test", answersHere > 0);
    }

    private static String shortened(String sentence) {
        return sentence.length() <= 90 ? sentence : sentence.substring(0, 87) + "..";
    }
}
