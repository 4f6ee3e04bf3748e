import java.io.IOException;
import java.nio.file.Files;
import java.nio.file.Path;
import java.util.ArrayDeque;
import java.util.Deque;

/** The example of README.md, whose comments begin with what each call answers. */
final class ReadmeTest {
    private static final Deque<String> lines = new ArrayDeque<>();

    public static void main(String[] args) throws IOException {
        readExample();
        VersionGroup group = new VersionGroup(5, 3);
        due("VersionGroup group = new VersionGroup(5, 3);", "5");
        due("int set = group.give(0, 7, 100);", group.give(0, 7, 100));
        due("int add = group.give(3, 7, 5);", group.give(3, 7, 5));
        due("group.crash(2, false);", group.crash(2, false));
        due("group.stir(200, 42);", group.stir(200, 42));
        due("group.answer(add);", group.answer(1) == VersionGroup.PENDING ? "PENDING" : "told");
        due("group.at(2, 7, 1);", group.at(2, 7, 1) == VersionGroup.BUSY ? "BUSY" : "told");
        due("group.settle();", group.settle());
        due("group.answer(set);", group.answer(0));
        due("group.answer(add);", group.answer(1));
        due("group.at(2, 7, 1);", group.at(2, 7, 1));
        due("group.at(0, 7, 0);", group.at(0, 7, 0));
        Check.due("lines of the example that are left", lines.size(), 0);
        Check.end();
    }

    /** The lines of the first Java block. */
    private static void readExample() throws IOException {
        boolean inside = false;
        for (String line : Files.readAllLines(Path.of("README.md"))) {
            if (inside && line.equals("```")) {
                return;
            }
            if (inside) {
                lines.add(line);
            }
            inside |= line.equals("```java");
        }
    }

    private static void due(String call, Object answer) {
        String line = lines.isEmpty() ? "" : lines.remove();
        String[] parts = line.split(" +// ", 2);
        Check.holds("README has '" + line + "' where '" + call + "' is called", parts[0].equals(call));
        String told = parts.length < 2 ? "" : parts[1].split("[:, ]")[0];
        Check.holds("README tells '" + told + "' of " + call + ", which answered " + answer,
            told.equals(String.valueOf(answer)));
    }
}
