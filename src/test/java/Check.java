import java.util.function.Supplier;

/** Counts the answers that are as due, and prints the others. */
final class Check {
    private int passed;
    private int failed;
    private String topic = "";

    void about(String topic) {
        this.topic = topic;
    }

    /** An exception is due as "throws." and its simple name. */
    void due(String call, Object want, Supplier<Object> answer) {
        same(call, want, told(answer));
    }

    void same(String call, Object want, Object got) {
        if (String.valueOf(want).equals(String.valueOf(got))) {
            passed++;
            return;
        }
        failed++;
        if (failed <= 40) {
            System.out.println(topic + ": " + call + " answered " + got + ", due is " + want);
        }
    }

    boolean hasFailed() {
        return failed > 0;
    }

    void close() {
        System.out.println(passed + " passed, " + failed + " failed");
        if (failed > 0 || passed == 0) {
            System.exit(1);
        }
    }

    static String told(Supplier<Object> answer) {
        try {
            return String.valueOf(answer.get());
        } catch (RuntimeException e) {
            return "throws." + e.getClass().getSimpleName();
        }
    }
}
