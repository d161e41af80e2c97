import java.util.List;
import java.util.function.Supplier;

/** The boundary cases of SEARCH and of the promises 20 to 28: words. */
public final class WordsEdgesTest {
    private static final Edges EDGES = new Edges("WordsEdgesTest");
    private static final String ONE = Counties.HEAD + "sleeper s plain in 0 frail 1;";

    public static void main(String[] args) {
        terms();
        EDGES.promise(20, "Of a word 0 odds, 1 minutes, 2 1 if it was said", WordsEdgesTest::wordAsTold);
        EDGES.promise(20, "3 words that must come before it (by others too), as bits", WordsEdgesTest::mustComeBefore);
        EDGES.promise(20, "NONE: 1.", WordsEdgesTest::wordRefused);
        EDGES.promise(21, "How likely it is the right one of those not said, the upper WHOLE or the lower, in lowest terms", WordsEdgesTest::lowestTerms);
        EDGES.promise(21, "(0 by 1 if it was said, they are awake)", WordsEdgesTest::noChance);
        EDGES.promise(21, "-1: 1.", WordsEdgesTest::chanceRefused);
        EDGES.promise(22, "SEARCH: the MEAN, likewise", WordsEdgesTest::meanLikewise);
        EDGES.promise(22, "(0 by 1, if none is left or they are awake)", WordsEdgesTest::noMean);
        EDGES.promise(22, "-1: 1 (no COUNTY).", WordsEdgesTest::meanRefused);
        EDGES.promise(23, "Its i-th word.", WordsEdgesTest::ithWord);
        EDGES.promise(23, "NONE: 1 (i, too; no COUNTY).", WordsEdgesTest::searchAtRefused);
        EDGES.promise(24, "The least MEAN of rows that begin with a word, likewise.", WordsEdgesTest::meanOfFirst);
        EDGES.promise(24, "-1: 1; 5 (it can't be said next).", WordsEdgesTest::meanFirstRefused);
        EDGES.promise(25, "How likely the right one is said IN so many minutes (0 .. 300) at the best, likewise.", WordsEdgesTest::withinMinutes);
        EDGES.promise(25, "-1: 1 (no COUNTY); 2.", WordsEdgesTest::withinRefused);
        EDGES.promise(26, "The words of it, as bits.", WordsEdgesTest::wordsWithin);
        EDGES.promise(26, "NONE: 1 (no COUNTY); 2.", () -> EDGES.bounds("withinWords()", SleepWords::withinWords, -1, 0, 300));
        EDGES.promise(27, "Words that can be said next (not said yet, all that must come before them said), as bits", WordsEdgesTest::nextWords);
        EDGES.promise(27, "0 if they are awake", () -> EDGES.told("next()", States::woken, SleepWords::next, 0));
        EDGES.promise(27, "NONE: 1 (no COUNTY).", () -> EDGES.needsCounty("next()", SleepWords::next, -1));
        EDGES.promise(28, "How many rows of all words not said yet there are, each behind those that must come before it", WordsEdgesTest::rowsBehindThoseBefore);
        EDGES.promise(28, "(1 if all were said; whether they are awake or not)", WordsEdgesTest::rowsLeft);
        EDGES.promise(28, "NONE: 1 (no COUNTY).", () -> EDGES.needsCounty("rows()", SleepWords::rows, -1));
        EDGES.end(20, 28);
    }

    private static void terms() {
        EDGES.term("III", "SEARCH, from NOW: all words not said yet in a row, each behind those that must come before it", WordsEdgesTest::behindThoseBefore);
        EDGES.term("III", "the MEAN of minutes till the right one is said (its own minutes too) by odds of those left: the least", WordsEdgesTest::ownMinutesToo);
        EDGES.term("III", "of like ones the first row by words", WordsEdgesTest::likeRows);
        EDGES.term("III", "IN so many minutes: of sets of words not said yet that can be said first, one behind the other, in so many minutes or fewer", WordsEdgesTest::orFewer);
        EDGES.term("III", "that with the greatest odds together: of like ones the least bits", WordsEdgesTest::leastBits);
    }

    private static String words(int... oddsAndMinutes) {
        StringBuilder text = new StringBuilder(ONE);
        for (int i = 0; i < oddsAndMinutes.length; i += 2) {
            text.append(i > 0 ? ";" : "").append("word ").append((char) ('a' + i / 2));
            text.append(" odds ").append(oddsAndMinutes[i]).append(" minutes ").append(oddsAndMinutes[i + 1]);
        }
        return text.toString();
    }

    private static String alike(int count) {
        int[] ones = new int[2 * count];
        java.util.Arrays.fill(ones, 1);
        return words(ones);
    }

    private static void part(String call, long upper, long lower, long wantUpper, long wantLower) {
        EDGES.due(call + ", the upper", upper, wantUpper);
        EDGES.due(call + ", the lower", lower, wantLower);
    }

    private static void row(String name, SleepWords x, int... want) {
        for (int i = 0; i < want.length; i++) {
            EDGES.due(name + ", searchAt(" + i + ")", x.searchAt(i), want[i]);
        }
        EDGES.due(name + ", searchAt behind the row", x.searchAt(want.length), -1);
    }

    // ---- SEARCH and IN

    private static void behindThoseBefore() {
        // The last is the best by far, but all others must come before it, by others too.
        SleepWords x = Check.of(words(1, 30, 1, 30, 1, 30, 99, 1) + ";before a b;before c d;before b c");
        row("a chain", x, 0, 1, 2, 3);
        SleepWords y = Check.of(words(1, 30, 1, 30, 1, 30, 99, 1) + ";before c d;before b a");
        row("two chains", y, 2, 3, 1, 0);
        // Once it is said, it keeps nobody waiting.
        SleepWords z = Check.of(words(10, 1, 10, 1, 80, 1) + ";before a c");
        row("ahead of SAY", z, 0, 2, 1);
        z.seed(65536);
        EDGES.due("say(0)", z.say(0), 0);
        row("behind SAY", z, 2, 1);
        // All the room there is.
        SleepWords seven = Check.of(words(1, 7, 1, 6, 1, 5, 1, 4, 1, 3, 1, 2, 1, 1));
        row("seven", seven, 6, 5, 4, 3, 2, 1, 0);
    }

    private static void ownMinutesToo() {
        SleepWords one = Check.of(words(99, 30));
        part("one word", one.mean(false), one.mean(true), 30, 1);
        SleepWords least = Check.of(words(1, 1));
        part("the least word", least.mean(false), least.mean(true), 1, 1);
        // 1 * 10 + 3 * 12 by 4, against 3 * 2 + 1 * 12 by 4: 9 by 2.
        SleepWords two = Check.of(words(1, 10, 3, 2));
        part("two words", two.mean(false), two.mean(true), 9, 2);
        row("two words", two, 1, 0);
        // The greatest there is: seven words of 99 and 30, 30 * (1 + .. + 7) by 7.
        SleepWords most = Check.of(words(99, 30, 99, 30, 99, 30, 99, 30, 99, 30, 99, 30, 99, 30));
        part("the most words", most.mean(false), most.mean(true), 120, 1);
        // By odds of those left: from NOW on.
        SleepWords left = Check.of(words(10, 10, 20, 20, 70, 30));
        left.seed(65536);
        EDGES.due("say(0), 36 mod 100", left.say(0), 0);
        part("of those left", left.mean(false), left.mean(true), (70 * 30 + 20 * 50) / 10, 9);
    }

    private static void likeRows() {
        row("all alike", Check.of(alike(7)), 0, 1, 2, 3, 4, 5, 6);
        // Odds by minutes are alike: any row has the same MEAN.
        row("alike by odds and minutes", Check.of(words(6, 3, 2, 1, 4, 2)), 0, 1, 2);
        row("alike, the last before the first", Check.of(alike(4) + ";before d a"), 1, 2, 3, 0);
        row("alike, the last before all", Check.of(alike(4) + ";before d a;before d b;before d c"), 3, 0, 1, 2);
        // A little more is more.
        row("the second a little better", Check.of(words(50, 10, 51, 10)), 1, 0);
        row("the second a little shorter", Check.of(words(50, 10, 50, 9)), 1, 0);
    }

    private static void orFewer() {
        SleepWords x = Check.of(words(5, 10, 3, 20) + ";before b a");
        int[] minutes = {0, 19, 20, 29, 30, 31, 300};
        int[] bits = {0, 0, 2, 2, 3, 3, 3};
        for (int i = 0; i < minutes.length; i++) {
            EDGES.due("withinWords(" + minutes[i] + ")", x.withinWords(minutes[i]), bits[i]);
        }
        // One of a chain alone can't be said first, though it is the likeliest and short.
        SleepWords y = Check.of(words(1, 30, 1, 30, 99, 1) + ";before a b;before b c");
        EDGES.due("withinWords(59)", y.withinWords(59), 1);
        EDGES.due("withinWords(60)", y.withinWords(60), 3);
        EDGES.due("withinWords(61)", y.withinWords(61), 7);
        SleepWords z = Check.of(words(10, 5, 10, 5, 80, 5) + ";before a c");
        z.seed(65536);
        EDGES.due("say(0)", z.say(0), 0);
        EDGES.due("withinWords(4) from NOW", z.withinWords(4), 0);
        EDGES.due("withinWords(5) from NOW", z.withinWords(5), 4);
        EDGES.due("withinWords(10) from NOW", z.withinWords(10), 6);
    }

    private static void leastBits() {
        EDGES.due("of like words the first", Check.of(alike(7)).withinWords(1), 1);
        EDGES.due("of like pairs the first", Check.of(alike(7)).withinWords(2), 3);
        EDGES.due("two words are less than the third", Check.of(words(2, 2, 1, 2, 3, 4)).withinWords(4), 3);
        EDGES.due("the first is less than two", Check.of(words(3, 4, 2, 2, 1, 2)).withinWords(4), 1);
        EDGES.due("more odds count first", Check.of(words(3, 4, 2, 2, 2, 2)).withinWords(4), 6);
        EDGES.due("the least is none", Check.of(words(3, 4)).withinWords(3), 0);
    }

    // ---- words

    private static void wordAsTold() {
        int[][] told = {{99, 30}, {1, 1}, {7, 3}, {50, 30}, {99, 1}, {1, 30}, {20, 20}};
        for (int i = 0; i < 7; i++) {
            int w = i;
            EDGES.told("word(" + w + ", 0)", States::brim, x -> x.word(w, 0), told[i][0]);
            EDGES.told("word(" + w + ", 1)", States::brim, x -> x.word(w, 1), told[i][1]);
            EDGES.told("word(" + w + ", 2)", States::brim, x -> x.word(w, 2), 0);
        }
        int[] said = {0, 1, 1, 0};
        for (int i = 0; i < 4; i++) {
            int w = i;
            EDGES.told("word(" + w + ", 2) said", States::woken, x -> x.word(w, 2), said[i]);
        }
    }

    private static void mustComeBefore() {
        int[] before = {0, 1, 3, 0, 8, 27, 0};
        for (int i = 0; i < 7; i++) {
            int w = i;
            EDGES.told("word(" + w + ", 3)", States::brim, x -> x.word(w, 3), before[i]);
        }
        // A chain of seven, told from its end and from its middle.
        SleepWords x = Check.of(alike(7) + ";before f g;before d e;before b c;before e f;before c d;before a b");
        for (int w = 0; w < 7; w++) {
            EDGES.due("a chain, word(" + w + ", 3)", x.word(w, 3), (1 << w) - 1);
        }
        EDGES.told("word(2, 3), all said", States::woken, y -> y.word(2, 3), 2);
    }

    private static void wordRefused() {
        EDGES.oneOf(4, "word(, 0)", (x, w) -> x.word(w, 0), -1);
        EDGES.refusedAll("word(0, )", (x, what) -> x.word(0, what), -1, 1, -1, 4, Integer.MIN_VALUE, Integer.MAX_VALUE);
    }

    private static void lowestTerms() {
        EDGES.told("chance(0, false)", States::fresh, x -> x.chance(0, false), 3);
        EDGES.told("chance(0, true)", States::fresh, x -> x.chance(0, true), 11);
        EDGES.told("chance(0, false) of those not said", States::busy, x -> x.chance(0, false), 1);
        EDGES.told("chance(0, true) of those not said", States::busy, x -> x.chance(0, true), 3);
        SleepWords only = Check.of(words(99, 1));
        part("the only one", only.chance(0, false), only.chance(0, true), 1, 1);
        SleepWords prime = Check.of(words(97, 1, 1, 1));
        part("97 of 98", prime.chance(0, false), prime.chance(0, true), 97, 98);
        part("1 of 98", prime.chance(1, false), prime.chance(1, true), 1, 98);
        SleepWords most = Check.of(words(99, 1, 99, 1, 99, 1, 99, 1, 99, 1, 99, 1, 99, 1));
        part("99 of 693", most.chance(6, false), most.chance(6, true), 1, 7);
        // One that must wait for others is as likely.
        SleepWords waits = Check.of(words(1, 1, 3, 1) + ";before a b");
        part("one that waits", waits.chance(1, false), waits.chance(1, true), 3, 4);
    }

    private static void noChance() {
        EDGES.told("chance(1, false), said", States::busy, x -> x.chance(1, false), 0);
        EDGES.told("chance(1, true), said", States::busy, x -> x.chance(1, true), 1);
        for (int i = 0; i < 4; i++) {
            int w = i;
            EDGES.told("chance(" + w + ", false), awake", States::woken, x -> x.chance(w, false), 0);
            EDGES.told("chance(" + w + ", true), awake", States::woken, x -> x.chance(w, true), 1);
        }
    }

    private static void chanceRefused() {
        EDGES.oneOf(4, "chance(, false)", (x, w) -> x.chance(w, false), -1);
        EDGES.oneOf(4, "chance(, true)", (x, w) -> x.chance(w, true), -1);
    }

    private static void meanLikewise() {
        EDGES.told("mean(false)", States::fresh, x -> x.mean(false), 257);
        EDGES.told("mean(true)", States::fresh, x -> x.mean(true), 11);
        // bee, dog, cow: 30 * 10 + 10 * 12 + 50 * 32 by 90.
        EDGES.told("mean(false), ant said", States::busy, x -> x.mean(false), 202);
        EDGES.told("mean(true), ant said", States::busy, x -> x.mean(true), 9);
        SleepWords whole = Check.of(words(50, 10, 50, 30));
        part("a whole mean", whole.mean(false), whole.mean(true), 25, 1);
        SleepWords lowest = Check.of(words(1, 1, 1, 1));
        part("lowest terms at once", lowest.mean(false), lowest.mean(true), 3, 2);
    }

    private static void noMean() {
        for (Supplier<SleepWords> state : List.of((Supplier<SleepWords>) States::lean, States::woken)) {
            EDGES.told("mean(false)", state, x -> x.mean(false), 0);
            EDGES.told("mean(true)", state, x -> x.mean(true), 1);
        }
        SleepWords x = Check.of(alike(1));
        part("ahead of the last word", x.mean(false), x.mean(true), 1, 1);
        EDGES.due("say(0)", x.say(0), 1);
        part("all said", x.mean(false), x.mean(true), 0, 1);
    }

    private static void meanRefused() {
        EDGES.needsCounty("mean(false)", x -> x.mean(false), -1);
        EDGES.needsCounty("mean(true)", x -> x.mean(true), -1);
    }

    private static void ithWord() {
        int[] row = {1, 0, 3, 2};
        for (int n = 0; n < 4; n++) {
            int i = n;
            EDGES.told("searchAt(" + i + ")", States::fresh, x -> x.searchAt(i), row[n]);
        }
        int[] left = {0, 3, 2};
        for (int n = 0; n < 3; n++) {
            int i = n;
            EDGES.told("searchAt(" + i + "), one said", States::busy, x -> x.searchAt(i), left[n]);
        }
        SleepWords x = States.brim();
        int seen = 0;
        for (int i = 0; i < 7; i++) {
            seen |= 1 << x.searchAt(i);
        }
        EDGES.due("all seven stand in the row", seen, 127);
    }

    private static void searchAtRefused() {
        EDGES.needsCounty("searchAt(0)", x -> x.searchAt(0), -1);
        EDGES.needsCounty("searchAt(-1)", x -> x.searchAt(-1), -1);
        EDGES.refused("searchAt(4)", States::fresh, x -> x.searchAt(4), -1, 1);
        EDGES.refused("searchAt(3), one said", States::busy, x -> x.searchAt(3), -1, 1);
        EDGES.refused("searchAt(0), no words", States::lean, x -> x.searchAt(0), -1, 1);
        EDGES.refused("searchAt(7), seven words", States::brim, x -> x.searchAt(7), -1, 1);
        for (int i = 0; i < 4; i++) {
            int at = i;
            EDGES.refused("searchAt(" + i + "), awake", States::woken, x -> x.searchAt(at), -1, 1);
        }
        EDGES.refusedAll("searchAt()", SleepWords::searchAt, -1, 1, -1, 7, 8, 31, 32, 33, Integer.MIN_VALUE, Integer.MAX_VALUE);
        SleepWords x = Check.of(alike(1));
        EDGES.due("searchAt(0), the last word", x.searchAt(0), 0);
        x.say(0);
        EDGES.due("searchAt(0), all said", x.searchAt(0), -1);
        EDGES.due("trouble()", x.trouble(), 1);
    }

    private static void meanOfFirst() {
        EDGES.told("meanFirst(0, false)", States::fresh, x -> x.meanFirst(0, false), 261);
        EDGES.told("meanFirst(0, true)", States::fresh, x -> x.meanFirst(0, true), 11);
        EDGES.told("meanFirst(2, false), ant said", States::busy, x -> x.meanFirst(2, false), 74);
        EDGES.told("meanFirst(2, true), ant said", States::busy, x -> x.meanFirst(2, true), 3);
        SleepWords only = Check.of(words(7, 30));
        part("the only one", only.meanFirst(0, false), only.meanFirst(0, true), 30, 1);
        // The rest of the row is the best behind it: c b behind a, b behind c.
        SleepWords x = Check.of(words(1, 30, 1, 20, 2, 10));
        part("the worst first", x.meanFirst(0, false), x.meanFirst(0, true), (30 + 60 + 2 * 40) / 2, 2);
    }

    private static void meanFirstRefused() {
        for (boolean lower : new boolean[] {false, true}) {
            EDGES.oneOf(4, "meanFirst()", (x, w) -> x.meanFirst(w, lower), -1);
            EDGES.refused("meanFirst(2), ant isn't said", States::fresh, x -> x.meanFirst(2, lower), -1, 5);
            EDGES.refused("meanFirst(3), bee isn't said", States::busy, x -> x.meanFirst(3, lower), -1, 5);
            EDGES.refused("meanFirst(1), said", States::busy, x -> x.meanFirst(1, lower), -1, 5);
            EDGES.refused("meanFirst(5), by others too", States::brim, x -> x.meanFirst(5, lower), -1, 5);
            for (int i = 0; i < 4; i++) {
                int w = i;
                EDGES.refused("meanFirst(" + w + "), awake", States::woken, x -> x.meanFirst(w, lower), -1, 5);
            }
        }
    }

    // ---- within, next, rows

    private static void withinMinutes() {
        EDGES.told("within(0, false)", States::fresh, x -> x.within(0, false), 0);
        EDGES.told("within(0, true)", States::fresh, x -> x.within(0, true), 1);
        EDGES.told("within(300, false)", States::fresh, x -> x.within(300, false), 1);
        EDGES.told("within(300, true)", States::fresh, x -> x.within(300, true), 1);
        EDGES.told("within(4, false)", States::fresh, x -> x.within(4, false), 0);
        EDGES.told("within(5, false)", States::fresh, x -> x.within(5, false), 2);
        EDGES.told("within(5, true)", States::fresh, x -> x.within(5, true), 11);
        EDGES.told("within(36, false)", States::fresh, x -> x.within(36, false), 10);
        EDGES.told("within(37, false)", States::fresh, x -> x.within(37, false), 1);
        EDGES.told("within(10, true), one said", States::busy, x -> x.within(10, true), 3);
        SleepWords only = Check.of(words(99, 30));
        part("the only word, a minute short", only.within(29, false), only.within(29, true), 0, 1);
        part("the only word", only.within(30, false), only.within(30, true), 1, 1);
        // Likewise: 0 by 1, if none is left or they are awake.
        for (Supplier<SleepWords> state : List.of((Supplier<SleepWords>) States::lean, States::woken)) {
            for (int minutes : new int[] {0, 300}) {
                EDGES.told("within(" + minutes + ", false)", state, x -> x.within(minutes, false), 0);
                EDGES.told("within(" + minutes + ", true)", state, x -> x.within(minutes, true), 1);
            }
        }
    }

    private static void withinRefused() {
        EDGES.bounds("within(, false)", (x, minutes) -> x.within(minutes, false), -1, 0, 300);
        EDGES.bounds("within(, true)", (x, minutes) -> x.within(minutes, true), -1, 0, 300);
    }

    private static void wordsWithin() {
        int[] minutes = {0, 4, 5, 9, 10, 24, 25, 36, 37, 300};
        // In 36 minutes bee, ant and cow (100 in 35), as all four take 37.
        int[] bits = {0, 0, 2, 2, 1, 11, 6, 7, 15, 15};
        for (int i = 0; i < minutes.length; i++) {
            int most = minutes[i];
            EDGES.told("withinWords(" + most + ")", States::fresh, x -> x.withinWords(most), bits[i]);
        }
        EDGES.told("withinWords(300), no words", States::lean, x -> x.withinWords(300), 0);
        EDGES.told("withinWords(300), one said", States::busy, x -> x.withinWords(300), 13);
        EDGES.told("withinWords(300), awake", States::woken, x -> x.withinWords(300), 0);
        EDGES.told("withinWords(300), seven words", States::brim, x -> x.withinWords(300), 127);
        EDGES.told("withinWords(115), seven words", States::brim, x -> x.withinWords(115), 127);
        EDGES.told("withinWords(114), seven words", States::brim, x -> x.withinWords(114), 95);
    }

    private static void nextWords() {
        EDGES.told("next(), no words", States::lean, SleepWords::next, 0);
        EDGES.told("next()", States::fresh, SleepWords::next, 3);
        EDGES.told("next(), ant said", States::busy, SleepWords::next, 5);
        EDGES.told("next(), seven words", States::brim, SleepWords::next, 73);
        EDGES.due("next(), seven free words", Check.of(alike(7)).next(), 127);
        // Both that must come before it, not one of them.
        SleepWords x = Check.of(words(10, 1, 10, 1, 80, 1) + ";before a c;before b c");
        x.seed(65536);
        EDGES.due("next() of two", x.next(), 3);
        EDGES.due("say(0)", x.say(0), 0);
        EDGES.due("next() of one", x.next(), 2);
        EDGES.due("say(1)", x.say(1), 0);
        EDGES.due("next() of the last", x.next(), 4);
        // It is in next() just if SAY isn't refused.
        for (int w = 0; w < 7; w++) {
            EDGES.due("say(" + w + ")", States.brim().say(w) != -1, (73 >> w & 1) == 1);
        }
    }

    private static void rowsBehindThoseBefore() {
        // wa, wb, wc and wd, we, wf, wb ahead of wf: 20 but 4; wg in any of 7 places.
        EDGES.told("rows(), all rooms full", States::brim, SleepWords::rows, 112);
        EDGES.due("rows(), one behind two", Check.of(alike(3) + ";before a c;before b c").rows(), 2);
        EDGES.due("rows(), two behind one", Check.of(alike(3) + ";before c a;before c b").rows(), 2);
        EDGES.due("rows(), six behind one", Check.of(alike(7) + ";before g a;before g b;before g c;before g d;before g e;before g f").rows(), 720);
        EDGES.due("rows(), a chain of three of seven", Check.of(alike(7) + ";before c b;before b a").rows(), 840);
        EDGES.due("rows(), by others too", Check.of(alike(3) + ";before c b;before b a;before c a").rows(), 1);
        // Those that were said are no more in a row, nor waited for.
        SleepWords x = Check.of(words(10, 1, 20, 1, 70, 1) + ";before a b;before a c");
        x.seed(65536);
        EDGES.due("rows() ahead of say(0)", x.rows(), 2);
        EDGES.due("say(0), 36 mod 100", x.say(0), 0);
        EDGES.due("rows(), a said", x.rows(), 2);
    }

    private static void rowsLeft() {
        EDGES.told("rows(), no words", States::lean, SleepWords::rows, 1);
        EDGES.told("rows()", States::fresh, SleepWords::rows, 6);
        EDGES.told("rows(), one said", States::busy, SleepWords::rows, 3);
        EDGES.told("rows(), awake with two not said", States::woken, SleepWords::rows, 1);
        int all = 1;
        for (int n = 1; n <= 7; n++) {
            all *= n;
            EDGES.due("rows() of " + n + " free words", Check.of(alike(n)).rows(), all);
        }
        EDGES.due("rows() of a chain of seven", Check.of(alike(7) + ";before a b;before b c;before c d;before d e;before e f;before f g").rows(), 1);
        SleepWords x = Check.of(alike(1));
        x.say(0);
        EDGES.due("rows(), all said", x.rows(), 1);
        // Three free words left, awake.
        SleepWords y = Check.of(alike(5));
        EDGES.due("say(0)", y.say(0), 0);
        EDGES.due("say(4)", y.say(4), 1);
        EDGES.due("rows(), awake", y.rows(), 6);
        EDGES.due("trouble()", y.trouble(), 0);
    }
}
