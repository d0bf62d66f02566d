import java.io.IOException;
import java.nio.file.Files;
import java.nio.file.Path;
import java.util.Set;
import java.util.regex.Matcher;
import java.util.regex.Pattern;

/** The rules of ../shared/LANGUAGE.md that can be seen in the source itself. */
public final class LanguageTest {
    // What the class calls so far; rule 4 allows more.
    private static final Set<String> LIBRARY = Set.of("Integer.compare", "Math.abs", "Math.max", "Math.min",
            "System.arraycopy");
    private static final Set<String> EXCEPTIONS = Set.of("IllegalStateException", "IllegalArgumentException",
            "IndexOutOfBoundsException", "ArithmeticException", "UnsupportedOperationException",
            "NoSuchElementException");
    private static final int MOST_CLASSES = 12;
    private static final int MOST_LINES = 60;
    private static final int MOST_PARAMETERS = 7;
    private static final int MOST_FIELDS = 20;

    private final Check check = new Check();
    private final String source;
    private final String code;

    private LanguageTest(String source) {
        this.source = source;
        code = source.replaceAll("(?s)/\\*.*?\\*/", "").replaceAll("//.*", "").replaceAll("'(?:\\\\.|[^'])'", "' '")
                .replaceAll("\"(?:\\\\.|[^\"\\\\])*\"", "\"\"");
    }

    public static void main(String[] args) throws IOException {
        LanguageTest test = new LanguageTest(Files.readString(Path.of("src/main/java/PlumbOpinions.java")));
        test.check.about("LANGUAGE.md");
        test.words();
        test.library();
        test.exceptions();
        test.statics();
        test.lengths();
        test.fields();
        test.check.close();
    }

    private void none(String rule, String pattern) {
        Matcher found = Pattern.compile(pattern).matcher(code);
        check.same(rule + ", " + pattern, "none", found.find() ? found.group() : "none");
    }

    private void words() {
        none("rule 2: no lambda, no method reference", "->|::");
        none("rule 3: no other types", "\\b(?:var|Object|Map|Set|Optional)\\b|\\b(?:Long|Double|Character|Byte|Short) \\w");
        none("rule 6: no catch, as no method of the class needs one", "\\b(?:try|catch)\\b");
        none("rule 6: none of these", "\\b(?:finally|synchronized|assert)\\b");
        none("rule 6: no equals, hashCode or toString", "\\b(?:equals|hashCode|toString)\\b");
        none("rule 9: each loop has a counter", "\\bwhile\\s*\\(true\\)|\\bfor\\s*\\(;;");
        none("rule 10: no joining of texts by +", "\"\\s*\\+|\\+\\s*\"");
        check.same("rule 4: signs are 1 to 127", true, source.chars().allMatch(sign -> sign > 0 && sign < 128));
    }

    private void library() {
        none("rule 4: no other import", "(?m)^import (?!java\\.util\\.NoSuchElementException;).*");
        Matcher calls = Pattern.compile("\\b(?:Integer|Math|System|Long|String|Arrays|Boolean|Character)\\.\\w+")
                .matcher(code);
        while (calls.find()) {
            check.same("rule 4: " + calls.group(), true, LIBRARY.contains(calls.group()));
        }
    }

    private void exceptions() {
        Matcher thrown = Pattern.compile("\\bthrow\\b(.*)").matcher(code);
        while (thrown.find()) {
            Matcher made = Pattern.compile(" new (\\w+)\\(\"\"\\);").matcher(thrown.group(1));
            check.same("rule 6: throw" + thrown.group(1), true, made.matches() && EXCEPTIONS.contains(made.group(1)));
        }
    }

    private void statics() {
        Matcher fields = Pattern.compile("(?m)^ *((?:private )?static [^({]*[;=])").matcher(code);
        while (fields.find()) {
            boolean isAllowed = fields.group(1).startsWith("private static final int ")
                    || fields.group(1).equals("private static final Kind[] ALL =");
            check.same("rule 5: " + fields.group(1), true, isAllowed);
        }
        none("rule 5: no static initialiser block", "\\bstatic\\s*\\{");
    }

    private void lengths() {
        long classes = Pattern.compile("\\b(?:class|enum|interface) \\w+").matcher(code).results().count();
        check.same("rule 11: classes, " + classes, true, classes <= MOST_CLASSES);
        Matcher methods = Pattern.compile("(?m)^( +)(?:(?:public|private|static) )*[\\w\\[\\]]+ \\w+\\(([^)]*)\\)[^;{]*\\{$")
                .matcher(code);
        int found = 0;
        while (methods.find()) {
            found++;
            int end = code.indexOf("\n" + methods.group(1) + "}", methods.start());
            long lines = code.substring(methods.start(), end).lines().count() + 1;
            String name = methods.group().strip();
            check.same("rule 11: lines of " + name, true, lines <= MOST_LINES);
            check.same("rule 11: parameters of " + name, true, methods.group(2).split(",").length <= MOST_PARAMETERS);
        }
        check.same("methods were found", true, found > 100);
    }

    /** Fields beside constants, of each class. */
    private void fields() {
        for (String part : code.split("\\b(?:class|enum) ")) {
            long fields = Pattern.compile("(?m)^ +private (?!static)[^(){}]*?;|^ +private (?!static)[^(){};]*= new .*;")
                    .matcher(part).results().count();
            check.same("rule 11: fields of " + part.split("\\W")[0] + ", " + fields, true, fields <= MOST_FIELDS);
        }
    }
}
