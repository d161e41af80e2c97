import java.io.IOException;
import java.nio.file.Files;
import java.nio.file.Path;
import java.util.Set;
import java.util.TreeSet;
import java.util.function.Supplier;
import java.util.function.ToLongFunction;

/** One test for each sentence of the document that names a boundary case; the sentence is quoted, so that it must stand there. */
final class Edges {
    /** A call with one number that is tried. */
    interface Numbered {
        long ask(SleepWords x, int number);
    }

    private static final int LEAST = Integer.MIN_VALUE;
    private static final int MOST = Integer.MAX_VALUE;
    private static final Path DOCUMENT = Path.of("..", "shared", "DOC.md");

    private final Check check;
    private final String document;
    private final Set<String> tested = new TreeSet<>();
    private String name = "";

    Edges(String test) {
        check = new Check(test);
        document = read();
    }

    private static String read() {
        try {
            return oneLine(Files.readString(DOCUMENT));
        } catch (IOException e) {
            throw new IllegalStateException("the document isn't where it is looked for: " + DOCUMENT, e);
        }
    }

    private static String oneLine(String text) {
        return text.replaceAll("\\s+", " ");
    }

    /** A sentence of a promise. */
    void promise(int number, String sentence, Runnable body) {
        test("## Promise " + number + ":", sentence, body);
    }

    /** A sentence of the terms: I, II, III or IV. */
    void term(String part, String sentence, Runnable body) {
        test(" " + part + ". ", sentence, body);
    }

    void test(String heading, String sentence, Runnable body) {
        name = heading.trim() + " \"" + sentence + "\"";
        tested.add(heading);
        int from = document.indexOf(heading);
        check.due(name + " stands in the document", from >= 0 && section(from, heading).contains(oneLine(sentence)), true);
        try {
            body.run();
        } catch (RuntimeException e) {
            check.fail(name + ": " + e);
        }
    }

    private String section(int from, String heading) {
        int to = document.indexOf("## ", from + heading.length());
        for (String part : new String[] {" II. ", " III. ", " IV. "}) {
            int next = document.indexOf(part, from + heading.length());
            to = !heading.startsWith("## ") && next >= 0 && next < to ? next : to;
        }
        return document.substring(from, to < 0 ? document.length() : to);
    }

    void due(String call, long got, long want) {
        check.due(name + ": " + call, got, want);
    }

    void due(String call, boolean got, boolean want) {
        check.due(name + ": " + call, got, want);
    }

    void dueNoSuchElement(String call, SleepWords x, int i) {
        check.dueNoSuchElement(name + ": " + call, x, i);
    }

    /** A refused call: what it answers, what TROUBLE tells then, and that nothing else has changed. */
    void refused(String call, Supplier<SleepWords> state, ToLongFunction<SleepWords> asked, long answer, int trouble) {
        SleepWords x = state.get();
        due(call, asked.applyAsLong(x), answer);
        due(call + ", trouble()", x.trouble(), trouble);
        due(call + ", where()", x.where(), -1);
        same(call, x, state.get());
    }

    /** Without a COUNTY the call is refused by 1: ahead of any text, of any that was told, and behind one that had a FAULT. */
    void needsCounty(String call, ToLongFunction<SleepWords> asked, long answer) {
        for (Supplier<SleepWords> state : States.untold()) {
            refused("no COUNTY, " + call, state, asked, answer, 1);
        }
    }

    /** Numbers for which the call is refused in every state that has a COUNTY. */
    void refusedAll(String call, Numbered asked, long answer, int trouble, int... numbers) {
        for (Supplier<SleepWords> state : States.told()) {
            for (int number : numbers) {
                refused(call + " of " + number, state, x -> asked.ask(x, number), answer, trouble);
            }
        }
    }

    /** A number in bounds: what is beside them is refused by 2, or by 1 if there is no COUNTY; the ends aren't refused by 2. */
    void bounds(String call, Numbered asked, long answer, int least, int most) {
        refusedAll(call, asked, answer, 2, least - 1, most + 1, LEAST, MOST);
        for (int number : new int[] {least - 1, least, most, most + 1}) {
            needsCounty(call + " of " + number, x -> asked.ask(x, number), answer);
        }
        for (Supplier<SleepWords> state : States.told()) {
            for (int number : new int[] {least, most}) {
                SleepWords x = state.get();
                asked.ask(x, number);
                due(call + " of " + number + ", trouble()", x.trouble(), 0);
            }
        }
    }

    /** One of those that size(what) counts: the last is there, the one behind it isn't, nor is any other, nor without a COUNTY. */
    void oneOf(int what, String call, Numbered asked, long answer) {
        needsCounty(call, x -> asked.ask(x, 0), answer);
        refusedAll(call, asked, answer, 1, -1, 7, 8, 31, 32, 33, LEAST, MOST);
        for (Supplier<SleepWords> state : States.told()) {
            int count = state.get().size(what);
            refused(call + " of " + count, state, x -> asked.ask(x, count), answer, 1);
            SleepWords x = state.get();
            asked.ask(x, count - 1);
            due(call + " of the last is refused by 1", x.trouble() == 1, count == 0);
        }
    }

    /** A call that only tells: its answer, no TROUBLE, and that nothing has changed. */
    void told(String call, Supplier<SleepWords> state, ToLongFunction<SleepWords> asked, long answer) {
        SleepWords x = state.get();
        due(call, asked.applyAsLong(x), answer);
        due(call + ", trouble()", x.trouble(), 0);
        due(call + ", where()", x.where(), -1);
        same(call, x, state.get());
    }

    /** All that the two can tell is the same; neither is of use behind it. */
    void same(String call, SleepWords x, SleepWords twin) {
        dueSame(call, Whole.of(x), Whole.of(twin));
    }

    void dueSame(String call, String got, String want) {
        String difference = Whole.difference(got, want);
        if (!difference.isEmpty()) {
            check.fail(name + ": " + call + " has changed: " + difference);
        }
    }

    /** The text is a COUNTY of so many sleepers. */
    SleepWords county(String text, int sleepers) {
        SleepWords x = new SleepWords();
        due("county of: " + text, Check.tell(x, text), sleepers);
        due("trouble() of: " + text, x.trouble(), 0);
        due("fault() of: " + text, x.fault(), 0);
        due("where() of: " + text, x.where(), -1);
        return x;
    }

    /** The text, without the mark '@', has a FAULT where the mark stands. */
    void faulty(String marked, int fault) {
        int at = marked.indexOf('@');
        faulty(marked.substring(0, at) + marked.substring(at + 1), fault, at);
    }

    void faulty(String text, int fault, int place) {
        SleepWords x = new SleepWords();
        due("county of: " + text, Check.tell(x, text), -1);
        due("trouble() of: " + text, x.trouble(), 4);
        due("fault() of: " + text, x.fault(), fault);
        due("where() of: " + text, x.where(), place);
    }

    /** Each of the promises has a sentence that was tested. */
    void end(int first, int last) {
        for (int number = first; number <= last; number++) {
            check.due("a test of promise " + number, tested.contains("## Promise " + number + ":"), true);
        }
        check.end();
    }
}
