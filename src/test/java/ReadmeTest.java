import java.io.IOException;
import java.nio.file.Files;
import java.nio.file.Path;
import java.util.Set;
import java.util.TreeSet;

/** README.md's example answers what is told there, and its list of tests names each test. */
public final class ReadmeTest {
    private static final Check check = new Check("ReadmeTest");

    public static void main(String[] args) throws IOException {
        String readme = Files.readString(Path.of("README.md"));
        example(readme);
        listOfTests(readme);
        check.end();
    }

    private static void example(String readme) {
        MarbleVotes x = new MarbleVotes();
        String text = "m13012;.p.";
        check.holds("the text is README's", readme.contains("String text = \"" + text + "\";"));
        told(readme, "x.sheet(0, 1, text.length())", x.sheet(0, 1, text.length()), "");
        for (int i = 0; i < text.length(); i++) {
            x.put(0, i, text.charAt(i));
        }
        told(readme, "x.hill(0, 1, 0, text.length())", x.hill(0, 1, 0, text.length()), "3:");
        told(readme, "x.vote(0, 1)", x.vote(0, 1), "0:");
        told(readme, "x.chance(0, 2, 0)", x.chance(0, 2, 0), "1:");
        told(readme, "x.chance(0, 2, 1)", x.chance(0, 2, 1), "2:");
        told(readme, "x.move(2)", x.move(2), "13:");
    }

    /** A line of the example: the call, and behind it what it answers; nothing told: 1. */
    private static void told(String readme, String call, long got, String answer) {
        boolean isTold = readme.lines().anyMatch(line ->
            line.startsWith(call + ";") && line.substring(call.length() + 1).strip().startsWith("// " + answer));
        check.holds("README tells " + call + " with " + answer, isTold);
        check.due(call, got, answer.isEmpty() ? 1 : Long.parseLong(answer.replace(":", "")));
    }

    private static void listOfTests(String readme) throws IOException {
        Set<String> names = new TreeSet<>();
        try (var files = Files.list(Path.of("src/test/java"))) {
            files.map(file -> file.getFileName().toString().replace(".java", "")).forEach(names::add);
        }
        for (String name : names) {
            check.holds("README names " + name, readme.contains("`" + name + "`"));
        }
    }
}
