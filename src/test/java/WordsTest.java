/** Promises 20 to 28: words, their chance, SEARCH, IN so many minutes, next, rows. */
public final class WordsTest {
    private static final Check CHECK = new Check("WordsTest");
    private static final String ONE = Counties.HEAD + "sleeper s plain in 0 frail 1;";

    public static void main(String[] args) {
        asTold();
        beforeByOthers();
        chances();
        search();
        searchOfLikeOnes();
        searchFromNow();
        minutes();
        minutesOfLikeOnes();
        nextAndRows();
        whenAwake();
        noWords();
        wrongInputs();
        CHECK.end();
    }

    private static void asTold() {
        SleepWords x = Counties.full();
        int[][] words = {{30, 10, 0, 0}, {20, 5, 0, 0}, {50, 20, 0, 2}, {10, 2, 0, 1}};
        for (int w = 0; w < words.length; w++) {
            for (int what = 0; what < 4; what++) {
                CHECK.due("word(" + w + ", " + what + ")", x, x.word(w, what), words[w][what], 0);
            }
        }
        x.say(1);
        CHECK.due("said", x.word(1, 2), 1);
        CHECK.due("not said", x.word(0, 2), 0);
        CHECK.due("before stays when said", x.word(2, 3), 2);
    }

    private static String words(int count) {
        StringBuilder text = new StringBuilder(ONE);
        for (int w = 0; w < count; w++) {
            text.append(w > 0 ? ";" : "").append("word ").append((char) ('a' + w)).append(" odds 1 minutes 1");
        }
        return text.toString();
    }

    private static void beforeByOthers() {
        SleepWords x = Check.of(words(5) + ";before c d;before a b;before d e;before b c");
        int[] before = {0, 1, 3, 7, 15};
        for (int w = 0; w < 5; w++) {
            CHECK.due("by others too, word(" + w + ", 3)", x.word(w, 3), before[w]);
        }
        CHECK.due("one row", x.rows(), 1);
    }

    private static void part(String call, SleepWords x, long upper, long lower, long wantUpper, long wantLower) {
        CHECK.due(call + " upper", upper, wantUpper);
        CHECK.due(call + " lower", lower, wantLower);
        CHECK.due(call + " trouble()", x.trouble(), 0);
    }

    private static void chances() {
        SleepWords x = Counties.full();
        part("chance(0)", x, x.chance(0, false), x.chance(0, true), 3, 11);
        part("chance(2)", x, x.chance(2, false), x.chance(2, true), 5, 11);
        x.say(1);
        part("chance(0) then", x, x.chance(0, false), x.chance(0, true), 1, 3);
        part("chance(1) said", x, x.chance(1, false), x.chance(1, true), 0, 1);
        x.say(0);
        part("chance(3) then", x, x.chance(3, false), x.chance(3, true), 1, 6);
        SleepWords y = Check.of(ONE + "word a odds 99 minutes 30");
        part("the only one", y, y.chance(0, false), y.chance(0, true), 1, 1);
    }

    private static void search() {
        SleepWords x = Counties.full();
        // ant, bee, dog, cow: (20 * 5 + 30 * 15 + 10 * 17 + 50 * 37) / 110 = 2570 / 110
        part("mean", x, x.mean(false), x.mean(true), 257, 11);
        int[] row = {1, 0, 3, 2};
        for (int i = 0; i < 4; i++) {
            CHECK.due("searchAt(" + i + ")", x, x.searchAt(i), row[i], 0);
        }
        CHECK.due("searchAt(4)", x, x.searchAt(4), -1, 1);
        CHECK.due("searchAt(-1)", x, x.searchAt(-1), -1, 1);
        part("meanFirst(0)", x, x.meanFirst(0, false), x.meanFirst(0, true), 261, 11);
        part("meanFirst(1)", x, x.meanFirst(1, false), x.meanFirst(1, true), 257, 11);
        CHECK.due("meanFirst(2)", x, x.meanFirst(2, false), -1, 5);
        CHECK.due("meanFirst(3)", x, x.meanFirst(3, true), -1, 5);
        // A poor word is said first for the good one behind it.
        SleepWords y = Check.of(ONE + "word a odds 10 minutes 5;word b odds 1 minutes 1;word c odds 99 minutes 1;before b c");
        CHECK.due("poor first", y.searchAt(0), 1);
        CHECK.due("good then", y.searchAt(1), 2);
        part("poor first mean", y, y.mean(false), y.mean(true), 269, 110);
    }

    private static void searchOfLikeOnes() {
        SleepWords x = Check.of(ONE + "word a odds 4 minutes 2;word b odds 2 minutes 1;word c odds 6 minutes 3");
        for (int i = 0; i < 3; i++) {
            CHECK.due("like rows, searchAt(" + i + ")", x.searchAt(i), i);
        }
        SleepWords y = Check.of(words(4) + ";before d a");
        int[] row = {1, 2, 3, 0};
        for (int i = 0; i < 4; i++) {
            CHECK.due("like rows with before, searchAt(" + i + ")", y.searchAt(i), row[i]);
        }
        part("like rows mean", y, y.mean(false), y.mean(true), 5, 2);
    }

    private static void searchFromNow() {
        SleepWords x = Counties.full();
        CHECK.due("say(1)", x.say(1), 0);
        // bee, dog, cow: (30 * 10 + 10 * 12 + 50 * 32) / 90 = 2020 / 90
        part("mean from now", x, x.mean(false), x.mean(true), 202, 9);
        CHECK.due("searchAt(0) from now", x.searchAt(0), 0);
        CHECK.due("searchAt(3) from now", x, x.searchAt(3), -1, 1);
        // cow, bee, dog: (50 * 20 + 30 * 30 + 10 * 32) / 90 = 2220 / 90
        part("meanFirst(2) from now", x, x.meanFirst(2, false), x.meanFirst(2, true), 74, 3);
        CHECK.due("meanFirst of one said", x, x.meanFirst(1, false), -1, 5);
        CHECK.due("rows() from now", x.rows(), 3);
        CHECK.due("next() from now", x.next(), 5);
        CHECK.due("withinWords(12) from now", x.withinWords(12), 9);
        part("within(12) from now", x, x.within(12, false), x.within(12, true), 4, 9);
        CHECK.due("withinWords(20) from now", x.withinWords(20), 4);
    }

    private static void minutes() {
        SleepWords x = Counties.full();
        CHECK.due("withinWords(0)", x, x.withinWords(0), 0, 0);
        part("within(0)", x, x.within(0, false), x.within(0, true), 0, 1);
        CHECK.due("withinWords(4)", x.withinWords(4), 0);
        CHECK.due("withinWords(5)", x.withinWords(5), 2);
        part("within(5)", x, x.within(5, false), x.within(5, true), 2, 11);
        CHECK.due("withinWords(17)", x.withinWords(17), 11);
        part("within(17)", x, x.within(17, false), x.within(17, true), 6, 11);
        CHECK.due("withinWords(24)", x.withinWords(24), 11);
        CHECK.due("withinWords(25)", x.withinWords(25), 6);
        CHECK.due("withinWords(37)", x.withinWords(37), 15);
        part("within(300)", x, x.within(300, false), x.within(300, true), 1, 1);
    }

    private static void minutesOfLikeOnes() {
        SleepWords x = Check.of(ONE + "word a odds 5 minutes 5;word b odds 2 minutes 2;word c odds 1 minutes 2;word d odds 3 minutes 2");
        CHECK.due("least bits", x.withinWords(5), 1);
        SleepWords y = Check.of(ONE + "word a odds 2 minutes 2;word b odds 1 minutes 2;word c odds 3 minutes 4");
        CHECK.due("least bits, though more words", y.withinWords(4), 3);
        SleepWords z = Check.of(words(4));
        CHECK.due("least bits of like ones", z.withinWords(2), 3);
    }

    private static void nextAndRows() {
        SleepWords x = Counties.full();
        CHECK.due("next()", x, x.next(), 3, 0);
        CHECK.due("rows()", x, x.rows(), 6, 0);
        x.say(0);
        CHECK.due("next() then", x.next(), 10);
        CHECK.due("rows() then", x.rows(), 3);
        SleepWords y = Check.of(words(7));
        CHECK.due("rows() of seven", y.rows(), 5040);
        CHECK.due("next() of seven", y.next(), 127);
    }

    private static void whenAwake() {
        SleepWords x = Counties.full();
        // Draws of SEED 0: 74, 5624, 28652.
        CHECK.due("say(1)", x.say(1), 0);
        CHECK.due("say(0)", x.say(0), 0);
        CHECK.due("say(2)", x.say(2), 1);
        part("chance(3) when awake", x, x.chance(3, false), x.chance(3, true), 0, 1);
        part("mean when awake", x, x.mean(false), x.mean(true), 0, 1);
        part("within when awake", x, x.within(300, false), x.within(300, true), 0, 1);
        CHECK.due("withinWords when awake", x, x.withinWords(300), 0, 0);
        CHECK.due("next() when awake", x, x.next(), 0, 0);
        CHECK.due("rows() when awake", x, x.rows(), 1, 0);
        CHECK.due("meanFirst when awake", x, x.meanFirst(3, false), -1, 5);
        // Nothing more is said then, so SEARCH has no word.
        CHECK.due("searchAt(0) when awake", x, x.searchAt(0), -1, 1);
        CHECK.due("searchAt(1) when awake", x, x.searchAt(1), -1, 1);
        CHECK.due("undo()", x.undo(), true);
        // cow (50 in 20 minutes) behind dog (10 in 2): 2 * 60 + 20 * 50 is less than 20 * 60 + 2 * 10.
        CHECK.due("searchAt(0), undone", x, x.searchAt(0), 3, 0);
        CHECK.due("searchAt(1), undone", x, x.searchAt(1), 2, 0);
        CHECK.due("searchAt(2), undone", x, x.searchAt(2), -1, 1);
        SleepWords y = Check.of(words(5));
        y.seed(0);
        // 74 mod 5 is 4, so the first word wakes nobody; 5624 mod 4 is 0, so the second does.
        CHECK.due("say(0)", y.say(0), 0);
        CHECK.due("say(4)", y.say(4), 1);
        CHECK.due("rows() of three when awake", y.rows(), 6);
        for (int i = 0; i < 5; i++) {
            CHECK.due("searchAt(" + i + ") of three when awake", y, y.searchAt(i), -1, 1);
        }
    }

    private static void noWords() {
        SleepWords x = Counties.lean();
        part("lean mean", x, x.mean(false), x.mean(true), 0, 1);
        part("lean within", x, x.within(300, false), x.within(300, true), 0, 1);
        CHECK.due("lean withinWords", x, x.withinWords(300), 0, 0);
        CHECK.due("lean searchAt(0)", x, x.searchAt(0), -1, 1);
        CHECK.due("lean rows()", x, x.rows(), 1, 0);
        CHECK.due("lean next()", x, x.next(), 0, 0);
        SleepWords y = Check.of(words(1));
        CHECK.due("the only word wakes them", y.say(0), 1);
        CHECK.due("rows() of all said", y.rows(), 1);
        part("mean of all said", y, y.mean(false), y.mean(true), 0, 1);
    }

    private static void wrongInputs() {
        SleepWords none = new SleepWords();
        CHECK.due("no county, word", none, none.word(0, 0), -1, 1);
        CHECK.due("no county, chance", none, none.chance(0, false), -1, 1);
        CHECK.due("no county, mean", none, none.mean(false), -1, 1);
        CHECK.due("no county, searchAt", none, none.searchAt(0), -1, 1);
        CHECK.due("no county, meanFirst", none, none.meanFirst(0, false), -1, 1);
        CHECK.due("no county, within", none, none.within(-1, false), -1, 1);
        CHECK.due("no county, withinWords", none, none.withinWords(-1), -1, 1);
        CHECK.due("no county, next", none, none.next(), -1, 1);
        CHECK.due("no county, rows", none, none.rows(), -1, 1);
        SleepWords x = Counties.full();
        for (int w : new int[] {-1, 4, 7, 32, Integer.MAX_VALUE, Integer.MIN_VALUE}) {
            CHECK.due("word(" + w + ", 0)", x, x.word(w, 0), -1, 1);
            CHECK.due("chance(" + w + ")", x, x.chance(w, true), -1, 1);
            CHECK.due("meanFirst(" + w + ")", x, x.meanFirst(w, true), -1, 1);
        }
        CHECK.due("word(0, 4)", x, x.word(0, 4), -1, 1);
        CHECK.due("word(0, -1)", x, x.word(0, -1), -1, 1);
        CHECK.due("within(-1)", x, x.within(-1, false), -1, 2);
        CHECK.due("within(301)", x, x.within(301, true), -1, 2);
        CHECK.due("withinWords(-1)", x, x.withinWords(-1), -1, 2);
        CHECK.due("withinWords(301)", x, x.withinWords(301), -1, 2);
        CHECK.due("within(300)", x, x.within(300, false), 1, 0);
    }
}
