import java.util.ArrayList;
import java.util.List;
import java.util.function.Consumer;
import java.util.function.Supplier;

/** The boundary cases of TROUBLE and of the promises 50 to 52: led, size, trouble. */
public final class ToldEdgesTest {
    private static final Edges EDGES = new Edges("ToldEdgesTest");

    public static void main(String[] args) {
        EDGES.test("## Terms", "The constants: `NONE = -1`: There is none; refused.", () -> EDGES.due("NONE", SleepWords.NONE, -1));
        EDGES.term("IV", "TROUBLE of the latest call that may be refused (those of which a number is told here)", ToldEdgesTest::latestCall);
        EDGES.term("IV", "0 it wasn't; 1 there is none such; 2 a number; 3 no room; 4 a FAULT; 5 not so; 6 there is none", ToldEdgesTest::eachNumber);
        EDGES.promise(50, "The i-th word, by numbers, that was said.", ToldEdgesTest::byNumbers);
        EDGES.promise(50, "NoSuchElementException if there is none such.", ToldEdgesTest::noneSuch);
        EDGES.promise(51, "0 lacks, 1 snow, 2 sleepers, 3 awake, 4 words, 5 before, 6 orders, 7 seen, 8 the day NOW, 9 1 if they are awake, 10 SEED, "
            + "11 ACTS that can be undone, 12 IMAGES, 13 bytes of THE TAPE.", ToldEdgesTest::sizes);
        EDGES.promise(51, "NONE for others", ToldEdgesTest::otherSizes);
        EDGES.promise(51, "0 for what there isn't", ToldEdgesTest::whatThereIsNot);
        EDGES.promise(52, "TROUBLE.", ToldEdgesTest::troubleStays);
        EDGES.end(50, 52);
    }

    /** All calls that may be refused, none of which is so in the state busy(). */
    private static List<Consumer<SleepWords>> granted() {
        List<Consumer<SleepWords>> calls = new ArrayList<>(List.of(x -> x.county(Counties.LEAN.length()), x -> x.counts(1), x -> x.really(1), x -> x.sum(1, 1),
            x -> x.sleeper(0, 0), x -> x.awake(0, 0), x -> x.harmOf(0), SleepWords::harm, SleepWords::harmed, SleepWords::worst));
        calls.addAll(List.of(SleepWords::tending, x -> x.tendedBy(0), SleepWords::left, x -> x.worthOf(0), SleepWords::bestHand, x -> x.word(0, 0),
            x -> x.chance(0, true), x -> x.mean(true), x -> x.searchAt(0), x -> x.meanFirst(0, true)));
        calls.addAll(List.of(x -> x.within(0, true), x -> x.withinWords(0), SleepWords::next, SleepWords::rows, SleepWords::fits, SleepWords::could,
            SleepWords::surely, SleepWords::ask, SleepWords::askLeaves, SleepWords::judge));
        calls.addAll(List.of(x -> x.together(0), SleepWords::clash, x -> x.envoys(0, 0, 0, true), x -> x.rests(0), x -> x.rest(0), x -> x.winters(0, 0),
            x -> x.wintersOf(0, 0, 0), x -> x.above(0, 0, 0), x -> x.tend(0, 0), SleepWords::day));
        calls.addAll(List.of(x -> x.say(0), x -> x.seed(0), SleepWords::undo, SleepWords::image, x -> x.back(0), x -> x.chance(1, false),
            // Answers of -2 and 0 are no refusals.
            x -> x.really(7), x -> x.sum(7, 7), x -> x.sleeper(2, 4), x -> x.rest(17)));
        return calls;
    }

    /** Calls of which no number is told. */
    private static List<Consumer<SleepWords>> aside() {
        return List.of(x -> x.feed(1, 2, 3, 4, 5), ToldEdgesTest::fillTape, SleepWords::fault, SleepWords::where, x -> x.size(2), x -> x.size(14),
            x -> x.size(-1), SleepWords::trouble, x -> EDGES.dueNoSuchElement("led(7)", x, 7), x -> EDGES.dueNoSuchElement("led(-1)", x, -1));
    }

    private static void fillTape(SleepWords x) {
        for (int i = 0; i < 46; i++) {
            x.feed(0, 0, 0, 0, 0);
        }
        EDGES.due("no room on THE TAPE", x.feed(0, 0, 0, 0, 0), -1);
    }

    /** Objects whose latest call was refused by 0 (it wasn't) to 6. */
    private static SleepWords troubled(int trouble) {
        SleepWords x = trouble == 6 ? States.fresh() : States.busy();
        switch (trouble) {
            case 0 -> x.harm();
            case 1 -> x.harmOf(5);
            case 2 -> x.counts(-1);
            case 3 -> x.tend(1, 2);
            case 4 -> x.county(0);
            case 5 -> x.say(1);
            default -> x.undo();
        }
        return x;
    }

    private static void latestCall() {
        for (int trouble = 0; trouble <= 6; trouble++) {
            for (Consumer<SleepWords> call : aside()) {
                SleepWords x = troubled(trouble);
                call.accept(x);
                EDGES.due("trouble() stays behind a call of which no number is told", x.trouble(), trouble);
            }
        }
        for (Consumer<SleepWords> call : granted()) {
            for (int trouble : new int[] {1, 2, 3, 5}) {
                SleepWords x = troubled(trouble);
                call.accept(x);
                EDGES.due("trouble() behind a call that isn't refused", x.trouble(), 0);
            }
        }
        SleepWords x = troubled(6);
        x.day();
        EDGES.due("trouble() behind 6 and a day", x.trouble(), 0);
        SleepWords y = troubled(4);
        y.day();
        EDGES.due("trouble() behind 4 and a day", y.trouble(), 0);
        // The latest of two refusals.
        SleepWords z = troubled(5);
        z.harmOf(5);
        EDGES.due("trouble() of the latest", z.trouble(), 1);
    }

    private static void eachNumber() {
        for (int trouble = 0; trouble <= 6; trouble++) {
            EDGES.due("trouble()", troubled(trouble).trouble(), trouble);
        }
    }

    private static void byNumbers() {
        SleepWords x = States.busy();
        EDGES.due("led(0) of one", x.led(0), 1);
        x.seed(65536);
        // 65,536 mod 90 is 16: bee (30) wakes them.
        EDGES.due("say(0)", x.say(0), 1);
        EDGES.due("led(0) of two, by numbers", x.led(0), 0);
        EDGES.due("led(1) of two, by numbers", x.led(1), 1);
        SleepWords woken = States.woken();
        EDGES.due("led(0) when awake", woken.led(0), 1);
        EDGES.due("led(1) when awake", woken.led(1), 2);
        // All seven, said from the last on.
        SleepWords seven = Check.of(Counties.HEAD + "sleeper s plain in 0 frail 1;word a odds 1 minutes 1;word b odds 1 minutes 1;"
            + "word c odds 1 minutes 1;word d odds 1 minutes 1;word e odds 1 minutes 1;word f odds 1 minutes 1;word g odds 1 minutes 1");
        for (int w = 6; w >= 0; w--) {
            // A draw of 1 is not below odds of 1, but for the last word, of which the odds are all that there are.
            seven.seed(seedOfOne());
            EDGES.due("say(" + w + ")", seven.say(w), w == 0 ? 1 : 0);
        }
        for (int i = 0; i < 7; i++) {
            EDGES.due("led(" + i + ") of seven", seven.led(i), i);
        }
        EDGES.dueNoSuchElement("led(7) of seven", seven, 7);
    }

    /** A SEED that becomes a number which is 1 by mod 2 to 7. */
    private static int seedOfOne() {
        int seed = 0;
        while ((75L * seed + 74) % 65537 % 420 != 1) {
            seed++;
        }
        return seed;
    }

    private static void noneSuch() {
        for (Supplier<SleepWords> state : States.untouched()) {
            for (int i : new int[] {0, 1, -1, Integer.MIN_VALUE, Integer.MAX_VALUE}) {
                SleepWords x = state.get();
                EDGES.dueNoSuchElement("led(" + i + ") of none", x, i);
                EDGES.same("led(" + i + ")", x, state.get());
            }
        }
        EDGES.dueNoSuchElement("led(0) of seven words, none said", States.brim(), 0);
        for (int i : new int[] {1, 7, 32, -1, Integer.MIN_VALUE, Integer.MAX_VALUE}) {
            SleepWords x = States.busy();
            EDGES.dueNoSuchElement("led(" + i + ") of one", x, i);
            EDGES.same("led(" + i + ")", x, States.busy());
        }
        EDGES.dueNoSuchElement("led(2) of two", States.woken(), 2);
        SleepWords undone = States.woken();
        undone.undo();
        EDGES.due("led(0), one undone", undone.led(0), 1);
        EDGES.dueNoSuchElement("led(1), one undone", undone, 1);
        SleepWords other = States.woken();
        other.county(Counties.LEAN.length());
        EDGES.dueNoSuchElement("led(0) of another county", other, 0);
    }

    private static void sizesOf(String name, SleepWords x, int... want) {
        for (int what = 0; what < want.length; what++) {
            EDGES.due(name + ", size(" + what + ")", x.size(what), want[what]);
        }
    }

    private static void sizes() {
        sizesOf("fresh", States.fresh(), 7, 50, 5, 2, 4, 2, 4, 2, 0, 0, 0, 0, 0, 60);
        sizesOf("busy", States.busy(), 7, 50, 5, 2, 4, 2, 4, 2, 1, 0, 4321, 5, 2, 60);
        sizesOf("woken", States.woken(), 7, 50, 5, 2, 4, 2, 4, 2, 1, 1, 5624, 5, 1, 60);
        sizesOf("all rooms full", States.brim(), 9, 100, 7, 3, 7, 8, 6, 5, 16, 0, 0, 16, 3, 60);
        SleepWords x = States.brim();
        x.seed(65536);
        for (int i = 0; i < 43; i++) {
            x.feed(0, 0, 0, 0, 0);
        }
        EDGES.due("size(10), the most", x.size(10), 65536);
        EDGES.due("size(13), the most", x.size(13), 900);
    }

    private static void otherSizes() {
        for (Supplier<SleepWords> state : List.of((Supplier<SleepWords>) States::empty, States::fresh, States::brim)) {
            for (int what : new int[] {-1, 14, 15, Integer.MIN_VALUE, Integer.MAX_VALUE}) {
                SleepWords x = state.get();
                x.counts(-1);
                int trouble = x.trouble();
                EDGES.due("size(" + what + ")", x.size(what), -1);
                EDGES.due("trouble() stays", x.trouble(), trouble);
                EDGES.same("size(" + what + ")", x, state.get());
            }
        }
    }

    private static void whatThereIsNot() {
        sizesOf("no COUNTY", States.empty(), 0, 0, 0, 0, 0, 0, 0, 0, 0, 0, 0, 0, 0, 0);
        sizesOf("no COUNTY, a text on THE TAPE", States.none(), 0, 0, 0, 0, 0, 0, 0, 0, 0, 0, 0, 0, 0, 60);
        sizesOf("no COUNTY, a FAULT", States.faulted(), 0, 0, 0, 0, 0, 0, 0, 0, 0, 0, 0, 0, 0, 60);
        sizesOf("one sleeper", States.lean(), 1, 100, 1, 0, 0, 0, 0, 0, 0, 0, 0, 0, 0, 60);
        EDGES.due("snow 0", Check.of("county lacks 1 snow 0;sleeper s old in 0 frail 1").size(1), 0);
    }

    private static void troubleStays() {
        EDGES.due("trouble() of a new object", new SleepWords().trouble(), 0);
        for (int trouble = 0; trouble <= 6; trouble++) {
            SleepWords x = troubled(trouble);
            for (int i = 0; i < 3; i++) {
                EDGES.due("trouble() asked again", x.trouble(), trouble);
            }
        }
    }
}
