import java.util.function.Supplier;

/** A house to call, and short ways to set it up and to look at it. */
abstract class Bench {
    static final String STATE = "throws.IllegalStateException";
    static final String ARGUMENT = "throws.IllegalArgumentException";
    static final String INDEX = "throws.IndexOutOfBoundsException";
    static final String ARITHMETIC = "throws.ArithmeticException";
    static final String REFUSED = "throws.UnsupportedOperationException";
    static final String NONE = "throws.NoSuchElementException";
    static final int[] ODD = {Integer.MIN_VALUE, -1, Integer.MAX_VALUE};

    final Check check = new Check();
    PlumbOpinions x;

    final void fresh(String topic) {
        check.about(topic);
        x = new PlumbOpinions();
    }

    final void due(Object want, Supplier<Object> answer, String call) {
        check.due(call, want, answer);
    }

    final void write(String text) {
        for (int i = 0; i < text.length(); i++) {
            x.append(text.charAt(i));
        }
    }

    final String run(String text) {
        write(text);
        return Check.told(() -> x.commands());
    }

    final void given(String text) {
        for (String part : text.split(" ")) {
            check.same("given " + part, part.split(";").length, run(part));
        }
    }

    final String lineText(int length) {
        StringBuilder line = new StringBuilder();
        for (int i = 0; i < length; i++) {
            line.append(x.character(i));
        }
        return line.toString();
    }

    final String person(int person) {
        return lineText(x.line(person));
    }

    final String beams() {
        return lineText(x.beams());
    }

    final String people() {
        StringBuilder all = new StringBuilder();
        for (int person = 0; person < x.account(0); person++) {
            all.append(person == 0 ? "" : " | ").append(person(person));
        }
        return all.toString();
    }

    final String reasons() {
        return Check.told(() -> x.reason(0) + " " + x.reason(1) + " " + x.reason(2));
    }

    /** What changes would show in, told by few calls. */
    final String sums() {
        StringBuilder sums = new StringBuilder();
        for (int what : new int[] {0, 1, 2, 4, 5, 8, 9}) {
            sums.append(x.account(what)).append(' ');
        }
        return sums.toString();
    }

    final void refused(String reasons, Supplier<Object> answer, String call) {
        String before = sums();
        due(REFUSED, answer, call);
        check.same("reason of " + call, reasons, reasons());
        check.same("sums behind " + call, before, sums());
    }
}
