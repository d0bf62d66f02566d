import java.util.function.IntFunction;
import java.util.function.Supplier;

/** A house to call, and short ways to set it up and to look at it. */
abstract class Bench {
    static final String THROWS = "throws.";
    static final String STATE = "throws.IllegalStateException";
    static final String ARGUMENT = "throws.IllegalArgumentException";
    static final String INDEX = "throws.IndexOutOfBoundsException";
    static final String ARITHMETIC = "throws.ArithmeticException";
    static final String REFUSED = "throws.UnsupportedOperationException";
    static final String NONE = "throws.NoSuchElementException";
    /** Numbers that are in no range, some of them by a wrap-around of a byte, of a short or of an int. */
    static final int[] ODD = {Integer.MIN_VALUE, Integer.MIN_VALUE + 1, -65536, -256, -1, 256, 65536,
        Integer.MAX_VALUE - 1, Integer.MAX_VALUE};

    final Check check = new Check();
    Called x;

    final void fresh(String topic) {
        check.about(topic);
        x = new Called();
    }

    /** A new house, to try a sentence of the document; where is "Terms" or a promise. */
    final void sentence(String where, String words) {
        fresh(where + ", \"" + words + "\"");
        check.same("the document says it", true, Document.says(where, words));
    }

    /** Another house for the same topic. */
    final void again() {
        x = new Called();
    }

    /** An exception is due only with all answers as they were before. */
    final void due(Object want, Supplier<Object> answer, String call) {
        if (String.valueOf(want).startsWith(THROWS)) {
            leavesAll(want, answer, call);
        }
        check.due(call, want, answer);
    }

    /** Only the reason is another one behind a change that is refused. */
    final void refused(String reasons, Supplier<Object> answer, String call) {
        leavesHouse(REFUSED, answer, call, true);
        check.due(call, REFUSED, answer);
        check.same("reason of " + call, reasons, reasons());
    }

    /** The text is refused: the buffer is empty then, and it has no fault. */
    final void refusedText(String reasons, String text) {
        leavesHouse(REFUSED, () -> run(text), text, false);
        check.same(text, REFUSED, run(text));
        check.same("reason of " + text, reasons, reasons());
        check.same("buffer and fault behind " + text, "0 -1", Answers.ofText(x));
    }

    /** The text has a fault: the buffer is empty then, and no reason is kept. */
    final void faultyText(int position, String text) {
        String reason = reasons();
        leavesHouse(ARGUMENT, () -> run(text), text, false);
        check.same(text, ARGUMENT, run(text));
        check.same("reason behind " + text, reason, reasons());
        check.same("buffer and fault behind " + text, "0 " + position, Answers.ofText(x));
    }

    private void leavesAll(Object want, Supplier<Object> answer, String call) {
        Called kept = x;
        x = kept.twin();
        String reason = Answers.ofReason(x);
        Check.told(answer);
        check.same("reason behind " + call, reason, Answers.ofReason(x));
        x = kept;
        leavesHouse(want, answer, call, true);
    }

    /** Tries it on a twin, and what can be undone behind it on another. */
    private void leavesHouse(Object want, Supplier<Object> answer, String call, boolean leavesText) {
        Called kept = x;
        x = kept.twin();
        String before = Answers.ofHouse(x);
        String text = Answers.ofText(x);
        check.same(call, want, Check.told(answer));
        check.same("answers behind " + call, before, Answers.ofHouse(x));
        if (leavesText) {
            check.same("text behind " + call, text, Answers.ofText(x));
        }
        x = kept.twin();
        Check.told(answer);
        check.same("past behind " + call, Answers.ofPast(kept.twin()), Answers.ofPast(x));
        x = kept;
    }

    final void write(String text) {
        for (int i = 0; i < text.length(); i++) {
            x.append(text.charAt(i));
        }
    }

    /** A text that was refused or has a fault throws, for a supplier too. */
    final String run(String text) {
        write(text);
        return Check.told(() -> x.commands());
    }

    /** Each part between blanks is the text of one call of commands. */
    final void given(String text) {
        for (String part : text.split(" ")) {
            check.same("given " + part, part.split(";").length, run(part));
        }
    }

    /** As given, but each command is a call of the method that it stands for, so that it takes few calls. */
    final void called(String text) {
        for (String part : text.split("[ ;]")) {
            String answer = Check.told(() -> call(part));
            check.same("called " + part + " throws", false, answer.startsWith(THROWS));
        }
    }

    private int call(String part) {
        char kind = part.charAt(0);
        int first = part.length() > 1 ? part.charAt(1) - '0' : 0;
        int last = part.length() > 3 ? part.charAt(3) - '0' : 0;
        switch (kind) {
            case 'o': case 's': return x.person(Integer.parseInt(part.substring(1)), kind == 's');
            case 'f': return x.friends(first, part.charAt(2) - '0', Integer.parseInt(part.substring(4)));
            case 'b': return x.beam(first, part.charAt(2) - '0', Integer.parseInt(part.substring(4)));
            case 'r': return x.round();
            case 'p': return x.fact(first, last);
            case 'x': return x.remove(first);
            default: return x.habit(first, last);
        }
    }

    final String lineText(int length) {
        StringBuilder line = new StringBuilder();
        for (int i = 0; i < length; i++) {
            line.append(x.character(i));
        }
        return line.toString();
    }

    final String person(int person) {
        return lineText(x.line(person));
    }

    final String beams() {
        return lineText(x.beams());
    }

    final String people() {
        StringBuilder all = new StringBuilder();
        for (int person = 0; person < x.account(0); person++) {
            all.append(person == 0 ? "" : " | ").append(person(person));
        }
        return all.toString();
    }

    final String accounts() {
        return row(11, x::account);
    }

    final String numbers(int person) {
        return row(8, what -> x.personOf(person, what));
    }

    final String beamNumbers(int beam) {
        return row(5, what -> x.beamOf(beam, what));
    }

    final String ranks(int measure) {
        return row(x.account(0), place -> x.ranked(measure, place)).replace(" ", "");
    }

    final String beamRanks() {
        return row(x.account(2), x::weakest).replace(" ", "");
    }

    final String camps() {
        return row(x.account(0), x::camp);
    }

    final String tilts() {
        return row(x.account(0), person -> x.personOf(person, 0));
    }

    private static String row(int length, IntFunction<Object> at) {
        StringBuilder row = new StringBuilder();
        for (int index = 0; index < length; index++) {
            row.append(index == 0 ? "" : " ").append(at.apply(index));
        }
        return row.toString();
    }

    final String reasons() {
        return Answers.ofReason(x);
    }
}
