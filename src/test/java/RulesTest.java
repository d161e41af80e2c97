import java.nio.file.Files;
import java.nio.file.Path;
import java.util.regex.Matcher;
import java.util.regex.Pattern;

/** Those rules of LANGUAGE.md that a look at the source can hold. */
public final class RulesTest {
    private static final Check CHECK = new Check("RulesTest");
    private static final String[] RULED_OUT = {
        "\\bcatch\\b", "\\btry\\b", "\\bfinally\\b", "->", "::", "\\bsynchronized\\b", "\\bassert\\b", "\\bprotected\\b",
        "Exact\\(", "\\bSystem\\.(?!arraycopy)", "\\bThread\\b", "\\bRandom\\b", "\\bdouble\\b", "\\bfloat\\b",
        "\\bequals\\b", "\\bhashCode\\b", "\\btoString\\b", "\\bpackage\\b", "\\bvar\\b", "\"\\s*\\+", "\\+\\s*\"",
        "\\bwhile \\(true\\)", "for \\(;;\\)", "static\\s*\\{", "\\bstatic (int|long|boolean|char|String|byte)(\\[\\])? \\w+\\s*[=;]"};

    public static void main(String[] args) throws Exception {
        String source = Files.readString(Path.of("src/main/java/SleepWords.java"));
        String code = source.replaceAll("(?s)/\\*.*?\\*/", "").replaceAll("//[^\n]*", "");
        for (String pattern : RULED_OUT) {
            Matcher m = Pattern.compile(pattern).matcher(code);
            if (m.find()) {
                CHECK.fail("ruled out: " + pattern + " in " + line(code, m.start()));
            }
        }
        for (int i = 0; i < source.length(); i++) {
            if (source.charAt(i) > 126) {
                CHECK.fail("a sign above 126 in " + line(source, i));
            }
        }
        imports(code);
        throwsAsRuled(code);
        shortMethods(code);
        CHECK.due("classes inside, at most twelve", count(code, "\\b(class|record|enum|interface) \\w+") - 1 <= 12, true);
        CHECK.end();
    }

    private static String line(String text, int at) {
        int from = text.lastIndexOf('\n', at) + 1;
        int to = text.indexOf('\n', at);
        return text.substring(from, to < 0 ? text.length() : to);
    }

    private static int count(String code, String pattern) {
        return (int) Pattern.compile(pattern).matcher(code).results().count();
    }

    private static void imports(String code) {
        CHECK.due("imports", count(code, "(?m)^import "), 1);
        CHECK.due("the import", code.contains("import java.util.NoSuchElementException;"), true);
        CHECK.due("no library by its whole name", count(code, "\\bjava\\."), 1);
    }

    private static void throwsAsRuled(String code) {
        CHECK.due("throws", count(code, "\\bthrow\\b"), count(code, "throw new NoSuchElementException\\(\"[^\"]*\"\\);"));
    }

    private static void shortMethods(String code) {
        Matcher m = Pattern.compile("(?m)^( +)(?:(?:public|private|static|final) )*[\\w\\[\\]]+ \\w+\\(([^)]*)\\)[^;{]*\\{$").matcher(code);
        int seen = 0;
        while (m.find()) {
            seen++;
            int end = code.indexOf("\n" + m.group(1) + "}", m.end());
            long lines = code.substring(m.start(), end).lines().count();
            if (lines > 60) {
                CHECK.fail("a method of " + lines + " lines: " + line(code, m.start()));
            }
            if (m.group(2).split(",").length > 7) {
                CHECK.fail("more than seven parameters: " + line(code, m.start()));
            }
        }
        CHECK.due("methods were found", seen > 100, true);
    }
}
