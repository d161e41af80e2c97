import java.io.ByteArrayOutputStream;
import java.io.IOException;
import java.io.PrintStream;
import java.nio.charset.StandardCharsets;
import java.nio.file.Files;
import java.nio.file.Path;

/** README.md: its example is the file it names, and prints what stands there; it names every test. */
public final class ReadmeTest {
    private static final Check CHECK = new Check("ReadmeTest");

    public static void main(String[] args) throws IOException {
        String readme = Files.readString(Path.of("README.md"));
        String example = Files.readString(Path.of("src/test/java/Example.java"));
        CHECK.due("the example is the file", block(readme, "```java\n").equals(example), true);
        CHECK.due("what it prints", block(readme, "It prints:\n\n```text\n").equals(printed()), true);
        lines(block(readme, "a sleeper at least:\n\n```text\n"));
        try (var files = Files.list(Path.of("src/test/java"))) {
            files.map(file -> file.getFileName().toString().replace(".java", "")).filter(name -> name.endsWith("Test"))
                .forEach(name -> CHECK.due("README.md names " + name, readme.contains(name), true));
        }
        CHECK.due("how the tests are run", readme.contains("    .ci/run\n"), true);
        CHECK.end();
    }

    private static String block(String text, String from) {
        int start = text.indexOf(from) + from.length();
        return text.substring(start, text.indexOf("```", start));
    }

    private static String printed() {
        PrintStream out = System.out;
        ByteArrayOutputStream bytes = new ByteArrayOutputStream();
        System.setOut(new PrintStream(bytes, true, StandardCharsets.UTF_8));
        Example.main(new String[0]);
        System.setOut(out);
        return bytes.toString(StandardCharsets.UTF_8).replace(System.lineSeparator(), "\n");
    }

    /** The lines of a text that it shows make a county, once the words are told that they name. */
    private static void lines(String shown) {
        StringBuilder text = new StringBuilder();
        for (String line : shown.split("\n")) {
            String told = line.split("  ")[0];
            text.append(text.length() == 0 ? "" : ";");
            text.append(told.startsWith("before") ? "word ant odds 20 minutes 5;word cow odds 50 minutes 20;" : "").append(told);
        }
        SleepWords x = new SleepWords();
        CHECK.due("the lines of a text: " + text, Check.tell(x, text.toString()), 1);
        int[] sizes = {7, 50, 1, 1, 3, 1, 1, 1};
        for (int what = 0; what < sizes.length; what++) {
            CHECK.due("size(" + what + ") of them", x.size(what), sizes[what]);
        }
    }
}
