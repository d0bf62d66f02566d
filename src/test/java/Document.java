import java.io.IOException;
import java.nio.file.Files;
import java.nio.file.Path;
import java.util.ArrayList;
import java.util.List;
import java.util.regex.Matcher;
import java.util.regex.Pattern;

/** The document itself, so that a test that quotes it can't quote what it does not say. */
final class Document {
    private static final Path FILE = Path.of("../shared/DOC.md");
    private static final String TEXT = read();
    private static final Pattern NUMBER = Pattern.compile("\\d+");

    private Document() {
    }

    private static String read() {
        try {
            return Files.readString(FILE);
        } catch (IOException e) {
            throw new IllegalStateException("tests are run in the project's own folder, beside ../shared", e);
        }
    }

    /** Where is the title of a part, up to a comma, or a promise, or several, by number. */
    static boolean says(String where, String words) {
        List<String> titles = new ArrayList<>();
        Matcher numbers = NUMBER.matcher(where);
        while (numbers.find()) {
            titles.add("## Promise " + numbers.group() + ":");
        }
        if (titles.isEmpty()) {
            titles.add("## " + where.split(",")[0] + "\n");
        }
        return titles.stream().anyMatch(title -> joined(part(title)).contains(words));
    }

    private static String part(String title) {
        int start = TEXT.indexOf(title);
        if (start < 0) {
            return "";
        }
        int end = TEXT.indexOf("\n## ", start);
        return end < 0 ? TEXT.substring(start) : TEXT.substring(start, end);
    }

    /** The document breaks its lines where a quotation has a blank. */
    private static String joined(String text) {
        return text.replaceAll("\\s+", " ");
    }

    /** The methods of the public face, each as its return type, its name, its types and its exceptions. */
    static List<String> methods() {
        List<String> methods = new ArrayList<>();
        Matcher lines = Pattern.compile("public (\\w+ \\w+)\\((.*?)\\)(?: throws (.*?))?;").matcher(
                part("## The public face\n"));
        while (lines.find()) {
            String types = lines.group(2).replaceAll(" \\w+(,|$)", "$1");
            String exceptions = lines.group(3) == null ? "" : " " + lines.group(3).replace(",", "");
            methods.add(lines.group(1) + "(" + types + ")" + exceptions);
        }
        return methods;
    }
}
