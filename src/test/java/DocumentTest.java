import java.io.IOException;
import java.nio.file.Files;
import java.nio.file.Path;
import java.util.ArrayList;
import java.util.List;
import java.util.regex.Matcher;
import java.util.regex.Pattern;
import java.util.stream.Stream;

/** The document from its first line to its last: its face stands in the class, and no sentence of it is without a test that quotes it. */
public final class DocumentTest {
    private static final Check CHECK = new Check("DocumentTest");
    private static final Pattern QUOTE = Pattern.compile(
        "EDGES\\.(?:promise\\((\\d+)|term\\(\"(\\w+)\"|test\\(\"([^\"]*)\"), \"([^\"]*)\"");
    // What stands between the sentences: marks, fences, numbers of parts, headings with the call's own line.
    private static final Pattern BETWEEN = Pattern.compile("```(text|java)?|\\b(I|II|III|IV)\\. |## Promise \\d+: [\\w ]+ `[^`]*`:|\\W|_|\\bor\\b");

    private final String document;
    private final String source;
    private final boolean[] quoted;

    private DocumentTest() throws IOException {
        document = oneLine(Files.readString(Path.of("..", "shared", "DOC.md")));
        source = oneLine(Files.readString(Path.of("src/main/java/SleepWords.java")));
        quoted = new boolean[document.length()];
    }

    public static void main(String[] args) throws IOException {
        DocumentTest test = new DocumentTest();
        test.face();
        test.sections();
        test.promises();
        test.quotes();
        CHECK.end();
    }

    private static String oneLine(String text) {
        return text.replaceAll("\\s+", " ");
    }

    /** Each declaration of the face, to the letter and in its order. */
    private void face() {
        String block = between("## The public face ```java ", "```");
        int at = 0;
        int seen = 0;
        for (String line : block.substring(block.indexOf('{') + 1, block.lastIndexOf('}')).split(";")) {
            String declared = line.trim();
            if (!declared.isEmpty()) {
                String written = declared.contains("(") ? declared + " {" : declared + ";";
                int next = source.indexOf(written, at);
                CHECK.due("in the class, behind the one ahead of it: " + declared, next >= at, true);
                at = Math.max(at, next);
                seen++;
            }
        }
        CHECK.due("declarations of the face", seen, 53);
    }

    /** "Ahead of the calls .. the interface says: ---- .." */
    private void sections() {
        Matcher m = Pattern.compile("Ahead of the calls (.*?) the interface says: (---- .*?)\\.").matcher(document);
        int seen = 0;
        while (m.find()) {
            seen++;
            int from = source.indexOf("// " + m.group(2) + " ");
            int to = source.indexOf("// ---- ", from + 1);
            CHECK.due(m.group(2) + " stands in the class", from >= 0 && to > from, true);
            for (String call : m.group(1).replace("`", "").split(", ")) {
                int at = source.indexOf(" " + call + "(", Math.max(from, 0));
                CHECK.due(call + " behind " + m.group(2), at > from && at < to, true);
            }
        }
        CHECK.due("sections", seen, 9);
    }

    /** Each promise's own line is one of the face. */
    private void promises() {
        String face = between("## The public face ```java ", "```");
        for (int number = 1; number <= 52; number++) {
            String section = between("## Promise " + number + ": ", "`: ");
            String call = section.substring(section.indexOf('`') + 1);
            CHECK.due("promise " + number + " in the face: " + call, face.contains("public " + call + ";"), true);
        }
        CHECK.due("a promise 53", document.contains("## Promise 53"), false);
    }

    private String between(String from, String to) {
        int start = document.indexOf(from) + from.length();
        return document.substring(start, document.indexOf(to, start));
    }

    /** All that is said from the terms on, up to what isn't promised. */
    private void quotes() throws IOException {
        for (Path file : edgesTests()) {
            Matcher m = QUOTE.matcher(oneLine(Files.readString(file)).replace("\" + \"", ""));
            while (m.find()) {
                mark(heading(m), m.group(4));
            }
        }
        Matcher sections = Pattern.compile("Ahead of the calls (.*?) the interface says: (---- .*?)\\.").matcher(document);
        while (sections.find()) {
            mark(sections.start(), sections.end());
        }
        Matcher between = BETWEEN.matcher(document);
        while (between.find()) {
            mark(between.start(), between.end());
        }
        int to = document.indexOf("## Not promised");
        for (int i = document.indexOf(" I. "); i < to; i++) {
            if (!quoted[i]) {
                int end = i;
                while (end < to && (!quoted[end] || document.charAt(end) == ' ')) {
                    end++;
                }
                CHECK.fail("no test quotes: " + document.substring(i, end));
                i = end;
            }
        }
    }

    private static List<Path> edgesTests() throws IOException {
        List<Path> files = new ArrayList<>();
        try (Stream<Path> all = Files.list(Path.of("src/test/java"))) {
            all.filter(file -> file.getFileName().toString().endsWith("EdgesTest.java")).sorted().forEach(files::add);
        }
        CHECK.due("tests that quote", files.size(), 10);
        return files;
    }

    private static String heading(Matcher m) {
        if (m.group(1) != null) {
            return "## Promise " + m.group(1) + ":";
        }
        return m.group(2) != null ? " " + m.group(2) + ". " : m.group(3);
    }

    private void mark(String heading, String sentence) {
        int from = document.indexOf(sentence, Math.max(document.indexOf(heading), 0));
        CHECK.due(heading + " \"" + sentence + "\" stands in the document", from >= 0, true);
        mark(from, from + sentence.length());
    }

    private void mark(int from, int to) {
        for (int i = Math.max(from, 0); i < to; i++) {
            quoted[i] = true;
        }
    }
}
