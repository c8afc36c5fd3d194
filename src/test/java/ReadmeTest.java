import java.io.IOException;
import java.nio.file.Files;
import java.nio.file.Path;
import java.util.List;
import java.util.Set;
import java.util.TreeSet;
import java.util.regex.Matcher;
import java.util.regex.Pattern;
import java.util.stream.Collectors;
import java.util.stream.Stream;

/** What README.md tells holds: the answers of its example, and its list of tests. Runs in the project's directory. */
public final class ReadmeTest extends Bench {
    private static final Path TESTS = Path.of("src/test/java");

    private final List<String> example;
    private int line = 0;

    private ReadmeTest(String readme) {
        int start = readme.indexOf("```java\n") + "```java\n".length();
        example = readme.substring(start, readme.indexOf("```", start)).lines().collect(Collectors.toList());
    }

    public static void main(String[] args) throws IOException {
        String readme = Files.readString(Path.of("README.md"));
        new ReadmeTest(readme).answersAreAsTold();
        testsAreAsTold(readme);
        checks.end();
    }

    private void answersAreAsTold() {
        due("README: a new object", nextLineIs("SnapshotPieces s = new SnapshotPieces();") ? 1 : 0, 1);
        SnapshotPieces s = new SnapshotPieces();
        told("s.leaf(0, 5);", s.leaf(0, 5));
        told("s.leaf(40, 7);", s.leaf(40, 7));
        told("s.giver(0, -1);", s.giver(0, -1));
        told("s.giver(1, -1);", s.giver(1, -1));
        told("s.target(2);", s.target(2));
        told("s.ask(1, 1, false);", s.ask(1, 1, false));
        told("s.named(0);", s.named(0));
        told("s.ask(0, s.missing(0), false);", s.ask(0, s.missing(0), false));
        told("s.count(3);", s.count(3));
        told("s.play(77, 300);", s.play(77, 300));
        told("s.joined();", s.joined());
        told("s.rot(40, 8);", s.rot(40, 8));
        told("s.cut();", s.cut());
        told("s.play(78, 300);", s.play(78, 300));
        told("s.held(40);", s.held(40));
        told("s.leaf(0, 6);", s.leaf(0, 6));
        told("s.target(3);", s.target(3));
        told("s.play(79, 300);", s.play(79, 300));
        told("s.joined();", s.joined());
        told("s.leaf(64, 6);", s.leaf(64, 6));
        due("README: the example ends here", example.size(), line);
    }

    private boolean nextLineIs(String call) {
        line++;
        return line <= example.size() && example.get(line - 1).startsWith(call);
    }

    /** The next line of the example is this call, and its comment begins with this answer. */
    private void told(String call, long answer) {
        boolean there = nextLineIs(call);
        due("README: its line " + line + " is " + call, there ? 1 : 0, 1);
        if (there) {
            Matcher told = Pattern.compile("// (-?\\d+)").matcher(example.get(line - 1));
            due("README: " + call + " tells an answer", told.find() ? 1 : 0, 1);
            due("README: " + call, answer, Long.parseLong(told.group(1)));
        }
    }

    private static void testsAreAsTold(String readme) throws IOException {
        Set<String> told = new TreeSet<>();
        Matcher names = Pattern.compile("`src/test/java/(\\w+\\.java)`").matcher(readme);
        while (names.find()) {
            told.add(names.group(1));
        }
        Set<String> there;
        try (Stream<Path> files = Files.list(TESTS)) {
            there = files.map(file -> file.getFileName().toString()).collect(Collectors.toCollection(TreeSet::new));
        }
        due("README: tells of " + told + ", there are " + there, told.equals(there) ? 1 : 0, 1);
    }
}
