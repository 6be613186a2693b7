import java.io.IOException;
import java.nio.file.Files;
import java.nio.file.Path;
import java.util.ArrayList;
import java.util.List;

/** The example of README.md: that its answers are true, and that it stands there as it is run here. */
public final class ExampleTest {
    public static void main(String[] args) throws IOException {
        answersAreTrue();
        readmeHasTheseLines();
        Check.done();
    }

    private static void answersAreTrue() {
        // The example begins here.
        ThingStream x = new ThingStream();
        x.shape(0, 1, -1, 7);
        x.field(0, 1, 0, 2);
        x.field(0, 1, 1, 4);
        int record = x.build(1);
        int row = x.row(2);
        x.set(record, 1, 0, -5);
        x.set(record, 1, 1, row);
        x.link(row, 0, record);
        int bytes = x.write(record);

        x.shape(1, 1, -1, 7);
        x.field(1, 1, 0, 2);
        x.field(1, 1, 5, 3);
        int things = x.read();
        long told = x.get(1, 0, 1, 0);
        long untold = x.get(1, 0, 1, 5);
        int first = x.goes(1, 1, 0);
        int second = x.goes(1, 1, 1);

        x.limit(2, 1);
        int where = -1;
        try {
            x.read();
        } catch (UnsupportedOperationException e) {
            where = x.position();
        }
        int kept = x.things(1);
        // The example ends here.
        Check.same("record", record, 0);
        Check.same("row", row, 1);
        Check.same("bytes", bytes, 25);
        Check.same("things", things, 2);
        Check.same("told", told, -5);
        Check.same("untold", untold, 0);
        Check.same("first", first, 0);
        Check.same("second", second, -1);
        Check.same("where", where, 19);
        Check.same("kept", kept, 2);
    }

    private static void readmeHasTheseLines() throws IOException {
        List<String> told = between(Path.of("README.md"), "```java", "```");
        List<String> run = between(Path.of("src/test/java/ExampleTest.java"),
            "// The example begins here.", "// The example ends here.");
        Check.same("the example of README.md", String.join("\n", told), String.join("\n", run));
    }

    /** The lines between these two, without what is blank or behind a comment's slashes. */
    private static List<String> between(Path file, String begin, String end) throws IOException {
        List<String> found = new ArrayList<>();
        boolean inside = false;
        for (String line : Files.readAllLines(file)) {
            boolean ends = inside && line.strip().equals(end);
            String code = line.replaceFirst("//.*", "").strip();
            if (inside && !ends && !code.isEmpty()) {
                found.add(code);
            }
            inside = !ends && (inside || line.strip().equals(begin));
        }
        Check.yes(file + " has an example", !found.isEmpty());
        return found;
    }
}
