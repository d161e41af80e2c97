import java.util.function.Supplier;

/** The boundary cases of WINTERS and of the promises 40 to 42. */
public final class WintersEdgesTest {
    private static final Edges EDGES = new Edges("WintersEdgesTest");
    // SEED becomes itself by 65,536 (36 mod 100), 0 by 45,438.
    private static final int FOR_EVER = 65536;
    private static final int TO_NOUGHT = 45438;

    public static void main(String[] args) {
        EDGES.term("III", "WINTERS by a SEED: each day from the day NOW on a DRAW mod 100: below snow", WintersEdgesTest::belowSnow);
        EDGES.term("III", "HARM is done to all whom TENDING doesn't tend", WintersEdgesTest::notTendedByIt);
        EDGES.term("III", "(SEED becomes (75 times SEED and 74) mod 65,537)", WintersEdgesTest::seedBecomes);
        EDGES.promise(40, "All HARM of n days (0 .. 90) by a SEED (0 .. 65,536) from NOW", WintersEdgesTest::wintersBounds);
        EDGES.promise(40, "(0, if they are awake)", WintersEdgesTest::whenAwake);
        EDGES.promise(40, "NONE: 1 (no COUNTY); 2.", WintersEdgesTest::wintersRefused);
        EDGES.promise(41, "HARM so far of one then.", WintersEdgesTest::ofOneThen);
        EDGES.promise(41, "NONE: 1; 2.", WintersEdgesTest::wintersOfRefused);
        EDGES.promise(42, "Behind which of them (1, 2, ..) all HARM so far is above so much (0 .. 9,999) first", WintersEdgesTest::aboveFirst);
        EDGES.promise(42, "0 behind none", WintersEdgesTest::behindNone);
        EDGES.promise(42, "NONE: 1 (no COUNTY); 2.", WintersEdgesTest::aboveRefused);
        EDGES.end(40, 42);
    }

    private static SleepWords snowing(int snow) {
        return Check.of("county lacks 1 snow " + snow + ";sleeper a plain in 0 frail 1");
    }

    private static int becomes(int seed) {
        return (int) ((75L * seed + 74) % 65537);
    }

    private static void belowSnow() {
        for (int snow = 0; snow <= 100; snow++) {
            SleepWords x = snowing(snow);
            EDGES.due("snow " + snow + ", 36 each day", x.winters(FOR_EVER, 90), snow > 36 ? 90 : 0);
            EDGES.due("snow " + snow + ", 36 each day, above()", x.above(89, FOR_EVER, 90), snow > 36 ? 90 : 0);
            EDGES.due("snow " + snow + ", a draw of 0", x.winters(TO_NOUGHT, 1), snow > 0 ? 1 : 0);
            EDGES.due("snow " + snow + ", a draw of 0, above()", x.above(0, TO_NOUGHT, 1), snow > 0 ? 1 : 0);
            EDGES.due("snow " + snow + ", a draw of 74", x.winters(0, 1), snow > 74 ? 1 : 0);
        }
        // 99 mod 100 is only below 100.
        int seed = 0;
        while (becomes(seed) % 100 != 99) {
            seed++;
        }
        EDGES.due("snow 99, a draw of 99", snowing(99).winters(seed, 1), 0);
        EDGES.due("snow 100, a draw of 99", snowing(100).winters(seed, 1), 1);
    }

    private static void notTendedByIt() {
        // TENDING leaves cal (4) and ewe, a sheep, while ram is tended.
        int[] each = {0, 0, 1, 0, 0};
        for (int i = 0; i < 5; i++) {
            int s = i;
            EDGES.told("wintersOf(" + s + ")", States::fresh, x -> x.wintersOf(s, FOR_EVER, 90), 360 * each[i]);
        }
        // Whom they tend NOW is nothing to it.
        SleepWords x = Counties.full();
        x.tend(1, 2);
        x.tend(0, 3);
        EDGES.due("winters(), cal tended NOW", x.winters(FOR_EVER, 10), 40);
        // Where no sheep is tended all of them are harmed.
        SleepWords sheep = Check.of(Counties.HEAD + "sleeper a sheep in 0 frail 2;sleeper b sheep in 0 frail 3;sleeper c plain in 0 frail 9;awake p in 0 hands 1 reach 0");
        EDGES.due("winters() of sheep", sheep.winters(FOR_EVER, 10), 50);
        SleepWords one = Check.of(Counties.HEAD + "sleeper a sheep in 0 frail 2;sleeper b sheep in 0 frail 3;sleeper c plain in 0 frail 2;awake p in 0 hands 1 reach 0");
        EDGES.due("winters(), one sheep tended", one.winters(FOR_EVER, 10), 20);
        SleepWords all = Check.of(Counties.HEAD + "sleeper a old in 0 frail 20;awake p in 9 hands 1 reach 9");
        EDGES.due("winters(), all tended", all.winters(FOR_EVER, 90), 0);
    }

    private static void seedBecomes() {
        int[][] seeds = {{0, 74}, {1, 149}, {872, 65474}, {873, 12}, {874, 87}, {TO_NOUGHT, 0}, {65535, 65461}, {65536, 65536}};
        for (int[] pair : seeds) {
            SleepWords x = Counties.full();
            x.seed(pair[0]);
            x.say(0);
            EDGES.due("SEED behind " + pair[0], x.size(10), pair[1]);
        }
        // From 0 it comes round through all but 65,536: 90 days from any SEED are those of the rule.
        for (int seed = 0; seed <= 65536; seed += 127) {
            SleepWords x = snowing(50);
            int due = 0;
            int drawn = seed;
            for (int d = 0; d < 90; d++) {
                drawn = becomes(drawn);
                due += drawn % 100 < 50 ? 1 : 0;
            }
            EDGES.due("winters(" + seed + ", 90)", x.winters(seed, 90), due);
        }
    }

    private static void wintersBounds() {
        for (Supplier<SleepWords> state : States.told()) {
            EDGES.told("winters(0, 0)", state, x -> x.winters(0, 0), 0);
            EDGES.told("winters(65536, 0)", state, x -> x.winters(65536, 0), 0);
        }
        // Each day 4, from NOW: what was done so far is not counted.
        EDGES.told("winters(65536, 1)", States::busy, x -> x.winters(65536, 1), 4);
        EDGES.told("winters(65536, 90)", States::busy, x -> x.winters(65536, 90), 360);
        EDGES.told("winters(0, 1)", States::busy, x -> x.winters(0, 1), 0);
        EDGES.told("winters(0, 2)", States::busy, x -> x.winters(0, 2), 4);
        // The most there is.
        StringBuilder text = new StringBuilder("county lacks 1 snow 100");
        for (int s = 0; s < 7; s++) {
            text.append(";sleeper ").append((char) ('a' + s)).append(" old in 0 frail 20");
        }
        EDGES.due("winters() of seven old ones", Check.of(text.toString()).winters(0, 90), 25200);
    }

    private static void whenAwake() {
        EDGES.told("winters(65536, 90)", States::woken, x -> x.winters(65536, 90), 0);
        EDGES.told("winters(0, 90)", States::woken, x -> x.winters(0, 90), 0);
        SleepWords x = States.woken();
        x.undo();
        EDGES.due("undone, winters(65536, 90)", x.winters(65536, 90), 360);
    }

    private static void wintersRefused() {
        EDGES.bounds("winters(, 0)", (x, seed) -> x.winters(seed, 0), -1, 0, 65536);
        EDGES.bounds("winters(0, )", (x, days) -> x.winters(0, days), -1, 0, 90);
    }

    private static void ofOneThen() {
        EDGES.told("wintersOf(1, 65536, 0)", States::busy, x -> x.wintersOf(1, 65536, 0), 12);
        EDGES.told("wintersOf(2, 65536, 0)", States::busy, x -> x.wintersOf(2, 65536, 0), 4);
        EDGES.told("wintersOf(2, 65536, 90)", States::busy, x -> x.wintersOf(2, 65536, 90), 364);
        EDGES.told("wintersOf(1, 65536, 90), tended by it", States::busy, x -> x.wintersOf(1, 65536, 90), 12);
        // Nothing more is harmed when they are awake, but what was done stays.
        EDGES.told("wintersOf(2, 65536, 90), awake", States::woken, x -> x.wintersOf(2, 65536, 90), 4);
        EDGES.told("wintersOf(0, 65536, 90), awake", States::woken, x -> x.wintersOf(0, 65536, 90), 0);
    }

    private static void wintersOfRefused() {
        EDGES.bounds("wintersOf(0, , 0)", (x, seed) -> x.wintersOf(0, seed, 0), -1, 0, 65536);
        EDGES.bounds("wintersOf(0, 0, )", (x, days) -> x.wintersOf(0, 0, days), -1, 0, 90);
        EDGES.oneOf(2, "wintersOf(, 0, 0)", (x, s) -> x.wintersOf(s, 0, 0), -1);
        // One that isn't there goes ahead of a wrong number.
        EDGES.refusedAll("wintersOf(, -1, 91)", (x, s) -> x.wintersOf(s, -1, 91), -1, 1, -1, 7);
    }

    private static void aboveFirst() {
        // 25 so far, 4 each day.
        int[][] days = {{0, 1}, {24, 1}, {25, 1}, {28, 1}, {29, 2}, {32, 2}, {33, 3}, {384, 90}};
        for (int[] pair : days) {
            EDGES.told("above(" + pair[0] + ", 65536, 90)", States::busy, x -> x.above(pair[0], 65536, 90), pair[1]);
        }
        // Draws of SEED 0: 74, 24, 52 mod 100: the second day snows.
        EDGES.told("above(25, 0, 90)", States::busy, x -> x.above(25, 0, 90), 2);
        EDGES.told("above(24, 0, 90), so already", States::busy, x -> x.above(24, 0, 90), 1);
        // 9,999 is passed by 36 times 280.
        StringBuilder text = new StringBuilder("county lacks 1 snow 100");
        for (int s = 0; s < 7; s++) {
            text.append(";sleeper ").append((char) ('a' + s)).append(" old in 0 frail 20");
        }
        EDGES.due("above(9999, 0, 90)", Check.of(text.toString()).above(9999, 0, 90), 36);
        EDGES.due("above(9999, 0, 36)", Check.of(text.toString()).above(9999, 0, 36), 36);
        EDGES.due("above(9999, 0, 35)", Check.of(text.toString()).above(9999, 0, 35), 0);
        EDGES.due("above(0, 0, 1)", Check.of(text.toString()).above(0, 0, 1), 1);
    }

    private static void behindNone() {
        EDGES.told("above(385, 65536, 90)", States::busy, x -> x.above(385, 65536, 90), 0);
        EDGES.told("above(9999, 65536, 90)", States::busy, x -> x.above(9999, 65536, 90), 0);
        EDGES.told("above(28, 65536, 0)", States::busy, x -> x.above(28, 65536, 0), 0);
        EDGES.told("above(0, 65536, 0), so already, but there are no days", States::busy, x -> x.above(0, 65536, 0), 0);
        EDGES.told("above(0, 0, 90), no HARM at all", States::lean, x -> x.above(0, 0, 90), 0);
        // Awake: what was done stays, nothing comes to it.
        EDGES.told("above(25, 65536, 90), awake", States::woken, x -> x.above(25, 65536, 90), 0);
        EDGES.told("above(24, 65536, 90), awake", States::woken, x -> x.above(24, 65536, 90), 1);
    }
    private static void aboveRefused() {
        EDGES.bounds("above(, 0, 0)", (x, much) -> x.above(much, 0, 0), -1, 0, 9999);
        EDGES.bounds("above(0, , 0)", (x, seed) -> x.above(0, seed, 0), -1, 0, 65536);
        EDGES.bounds("above(0, 0, )", (x, days) -> x.above(0, 0, days), -1, 0, 90);
    }
}
