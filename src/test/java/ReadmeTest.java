import java.io.IOException;
import java.nio.file.Files;
import java.nio.file.Path;
import java.util.List;
import java.util.Set;
import java.util.TreeSet;
import java.util.regex.Matcher;
import java.util.regex.Pattern;
import java.util.stream.Stream;

/** What README.md says: each call of its example has the answer that stands behind it, and its list names every test. */
public final class ReadmeTest {
    private static final Pattern CALL = Pattern.compile("office\\.(\\w+)\\(([-0-9, ]*)\\); +// ([^ :]+)(:.*)?");
    private static final Pattern TEST = Pattern.compile("`(\\w+Test)`");
    private static final String FIRST = "BoxofficeRow office = new BoxofficeRow();";

    public static void main(String[] args) throws IOException {
        String readme = Files.readString(Path.of("README.md"));
        example(blockOf(readme, "```java\n", "```"));
        namesEveryTest(readme);
        Check.end("ReadmeTest");
    }

    private static String blockOf(String text, String start, String end) {
        int first = text.indexOf(start) + start.length();
        return text.substring(first, text.indexOf(end, first));
    }

    private static void example(String block) {
        List<String> lines = block.lines().toList();
        Check.same("first line of the example", FIRST, lines.get(0));
        BoxofficeRow office = new BoxofficeRow();
        for (String line : lines.subList(1, lines.size())) {
            Matcher call = CALL.matcher(line);
            if (!call.matches()) {
                Check.same("a line of the example", "a call and its answer", line);
                continue;
            }
            Step step = Step.read(call.group(1) + " " + call.group(2).replace(",", " ")).get(0);
            Check.same(line, call.group(3), step.on(office));
        }
    }

    private static void namesEveryTest(String readme) throws IOException {
        Set<String> named = new TreeSet<>();
        Matcher name = TEST.matcher(readme);
        while (name.find()) {
            named.add(name.group(1));
        }
        Set<String> there = new TreeSet<>();
        try (Stream<Path> files = Files.list(Path.of("src/test/java"))) {
            files.map(file -> file.getFileName().toString()).filter(file -> file.endsWith("Test.java"))
                .forEach(file -> there.add(file.replace(".java", "")));
        }
        Check.same("the tests that README.md names", there.toString(), named.toString());
    }
}
