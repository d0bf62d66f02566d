import java.io.IOException;
import java.nio.file.Files;
import java.nio.file.Path;
import java.util.List;
import java.util.function.Function;

/** The examples of README.md: each call stands there with the answer that it gives, in this order. */
public final class ReadmeTest {
    private final Check check = new Check();
    private final PlumbOpinions plumb = new PlumbOpinions();
    private final List<String> lines;
    private int read;

    private ReadmeTest(List<String> lines) {
        this.lines = lines;
    }

    public static void main(String[] args) throws IOException {
        ReadmeTest test = new ReadmeTest(Files.readAllLines(Path.of("README.md")));
        test.check.about("README.md");
        test.changes();
        test.texts();
        test.linesAndSnapshot();
        test.noMoreExamples();
        test.check.close();
    }

    private void changes() {
        example("plumb.person(-20, true);", p -> p.person(-20, true));
        example("plumb.person(20, false);", p -> p.person(20, false));
        example("plumb.friends(0, 1, 4);", p -> p.friends(0, 1, 4));
        example("plumb.beam(0, 1, 30);", p -> p.beam(0, 1, 30));
        example("plumb.wouldMove(1);", p -> p.wouldMove(1));
        example("plumb.round();", p -> p.round());
        example("plumb.personOf(1, 0);", p -> p.personOf(1, 0));
        example("plumb.fact(1, 4);", p -> p.fact(1, 4));
        example("plumb.restsIn();", p -> p.restsIn());
        example("plumb.undo();", p -> p.undo());
        example("plumb.friends(0, 0, 3);", p -> p.friends(0, 0, 3));
        example("plumb.reason(0);", p -> p.reason(0));
        example("plumb.reason(1);", p -> p.reason(1));
        example("plumb.reason(2);", p -> p.reason(2));
    }

    private void texts() {
        String loop = lines.get(nextWith("toCharArray()"));
        String text = loop.substring(loop.indexOf('"') + 1, loop.lastIndexOf('"'));
        for (char sign : text.toCharArray()) {
            plumb.append(sign);
        }
        check.same("the loop", "    plumb.append(sign);", lines.get(nextWith("plumb.")));
        example("plumb.commands();", p -> p.commands());
    }

    private void linesAndSnapshot() {
        written("plumb.line(0);", p -> p.line(0));
        example("plumb.character(1);", p -> p.character(1));
        written("plumb.beams();", p -> p.beams());
        example("plumb.save();", p -> p.save());
        example("plumb.habit(2, 9);", p -> p.habit(2, 9));
        example("plumb.restore();", p -> p.restore());
    }

    private int nextWith(String words) {
        for (int line = read; line < lines.size(); line++) {
            if (lines.get(line).contains(words)) {
                read = line + 1;
                return line;
            }
        }
        throw new AssertionError("README.md shows no more " + words);
    }

    /** The next call on the page, and its answer: what stands behind the slashes, up to a colon. */
    private String example(String call, Function<PlumbOpinions, Object> answer) {
        String line = lines.get(nextWith("plumb."));
        String told = line.contains("// ") ? line.substring(line.indexOf("// ") + 3) : "";
        check.same("call on the page", call, line.split(" *//")[0]);
        check.same(call, told.split(":")[0].replace("throws ", "throws."), Check.told(() -> answer.apply(plumb)));
        return told;
    }

    /** A call that writes a line, which the page shows too. */
    private void written(String call, Function<PlumbOpinions, Object> answer) {
        String told = example(call, answer);
        StringBuilder line = new StringBuilder();
        for (int index = 0; Check.told(() -> plumb.character(line.length())).length() == 1; index++) {
            line.append(plumb.character(index));
        }
        check.same("line of " + call, told.substring(told.indexOf('"') + 1, told.lastIndexOf('"')), line);
    }

    private void noMoreExamples() {
        for (String line : lines.subList(read, lines.size())) {
            check.same("an example that is not run: " + line, false, line.startsWith("plumb."));
        }
    }
}
