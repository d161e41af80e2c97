import java.util.function.Supplier;

/** The boundary cases of ACTS, UNDO and IMAGES and of the promises 43 to 49. */
public final class ActsEdgesTest {
    private static final Edges EDGES = new Edges("ActsEdgesTest");
    private static final String HEAD = Counties.HEAD;
    private static final String ONE = HEAD + "sleeper s plain in 0 frail 1;";
    // SEED becomes 0 by it.
    private static final int TO_NOUGHT = 45438;

    public static void main(String[] args) {
        terms();
        EDGES.promise(43, "TEND: true", ActsEdgesTest::tends);
        EDGES.promise(43, "false: 1", ActsEdgesTest::tendNoneSuch);
        EDGES.promise(43, "5 (it is tended, too far, they are awake)", ActsEdgesTest::tendNotSo);
        EDGES.promise(43, "3 (no hand free)", ActsEdgesTest::tendNoHand);
        EDGES.promise(44, "DAY: HARM done in it.", ActsEdgesTest::harmOfDay);
        EDGES.promise(44, "NONE: 1 (no COUNTY)", () -> EDGES.needsCounty("day()", SleepWords::day, -1));
        EDGES.promise(44, "3 (999 went by)", ActsEdgesTest::lastDay);
        EDGES.promise(44, "5 (they are awake)", () -> EDGES.refused("day()", States::woken, SleepWords::day, -1, 5));
        EDGES.promise(45, "SAY: 1 they WAKE, 0 they don't.", ActsEdgesTest::wakeOrNot);
        EDGES.promise(45, "NONE: 1", ActsEdgesTest::sayNoneSuch);
        EDGES.promise(45, "5 (said already, one that must come before it isn't, they are awake)", ActsEdgesTest::sayNotSo);
        EDGES.promise(46, "SEED (no ACT): true", ActsEdgesTest::seedIsNoAct);
        EDGES.promise(46, "false: 1 (no COUNTY)", ActsEdgesTest::seedNeedsCounty);
        EDGES.promise(46, "2 (0 .. 65,536)", ActsEdgesTest::seedBounds);
        EDGES.promise(47, "UNDO: true", ActsEdgesTest::undoesEach);
        EDGES.promise(47, "false: 6", ActsEdgesTest::nothingToUndo);
        EDGES.promise(48, "An IMAGE: its number.", ActsEdgesTest::imageNumbers);
        EDGES.promise(48, "NONE: 1 (no COUNTY); 3.", ActsEdgesTest::imageRefused);
        EDGES.promise(49, "All is as by an IMAGE (all IMAGES stay): true", ActsEdgesTest::asByImage);
        EDGES.promise(49, "false: 1", ActsEdgesTest::backRefused);
        EDGES.end(43, 49);
    }

    private static void terms() {
        EDGES.term("III", "ACTS: TEND (an awake one a sleeper, for the day NOW)", ActsEdgesTest::forTheDay);
        EDGES.term("III", "DAY (HARM to those not tended; nobody is tended then)", ActsEdgesTest::nobodyThen);
        EDGES.term("III", "SAY a word (a DRAW mod the odds of all not said: below its own they WAKE", ActsEdgesTest::belowItsOwn);
        EDGES.term("III", "then nothing more is said or harmed", ActsEdgesTest::nothingMore);
        EDGES.term("III", "SEED. UNDO: all, SEED too, is as ahead of the latest", ActsEdgesTest::seedToo);
        EDGES.term("III", "(16 are kept)", ActsEdgesTest::sixteenKept);
        EDGES.term("III", "IMAGES: up to 3", ActsEdgesTest::threeImages);
        EDGES.term("III", "gone back to one, nothing can be undone", ActsEdgesTest::nothingUndone);
    }

    private static long number(boolean answer) {
        return answer ? 1 : 0;
    }

    // ---- terms

    private static void forTheDay() {
        SleepWords x = Counties.full();
        EDGES.due("tend(0, 0)", x.tend(0, 0), true);
        EDGES.due("sleeper(0, 4)", x.sleeper(0, 4), 0);
        x.day();
        EDGES.due("sleeper(0, 4), the next day", x.sleeper(0, 4), -2);
        EDGES.due("tend(0, 0), the next day", x.tend(0, 0), true);
    }

    private static void nobodyThen() {
        SleepWords x = States.busy();
        EDGES.due("day()", x.day(), 14);
        for (int s = 0; s < 5; s++) {
            EDGES.due("sleeper(" + s + ", 4)", x.sleeper(s, 4), -2);
        }
        EDGES.due("awake(0, 3)", x.awake(0, 3), 0);
        EDGES.due("awake(1, 4)", x.awake(1, 4), 1);
        int[] harm = {10, 12, 8, 4, 5};
        for (int s = 0; s < 5; s++) {
            EDGES.due("sleeper(" + s + ", 3)", x.sleeper(s, 3), harm[s]);
        }
        EDGES.due("SEED stays", x.size(10), 4321);
    }

    private static void belowItsOwn() {
        // A draw of 74 of 100: not below 74, below 75.
        for (int odds = 1; odds <= 99; odds++) {
            SleepWords x = Check.of(ONE + "word a odds " + odds + " minutes 1;word b odds " + (100 - odds) + " minutes 1");
            EDGES.due("odds " + odds + " of 100, a draw of 74", x.say(0), odds > 74 ? 1 : 0);
        }
        // A draw of 0 is below the least odds.
        SleepWords nought = Check.of(ONE + "word a odds 1 minutes 1;word b odds 99 minutes 1");
        nought.seed(TO_NOUGHT);
        EDGES.due("a draw of 0", nought.say(0), 1);
        // The draw comes round at the odds of all: 74 mod 74 is 0, mod 73 is 1, mod 75 is 74.
        int[][] rounds = {{1, 73, 1}, {1, 72, 0}, {2, 71, 1}, {1, 74, 0}, {74, 1, 0}, {75, 1, 1}};
        for (int[] round : rounds) {
            SleepWords x = Check.of(ONE + "word a odds " + round[0] + " minutes 1;word b odds " + round[1] + " minutes 1");
            EDGES.due("odds " + round[0] + " and " + round[1] + ", a draw of 74", x.say(0), round[2]);
        }
        // Of all not said: 5624 mod 60 is 44, mod 100 is 24.
        SleepWords x = Check.of(ONE + "word a odds 40 minutes 1;word b odds 44 minutes 1;word c odds 16 minutes 1");
        EDGES.due("say(0), 74 of 100", x.say(0), 0);
        EDGES.due("say(1), 44 of 60", x.say(1), 0);
        SleepWords y = Check.of(ONE + "word a odds 40 minutes 1;word b odds 45 minutes 1;word c odds 15 minutes 1");
        EDGES.due("say(0), 74 of 100", y.say(0), 0);
        EDGES.due("say(1), 44 of 60", y.say(1), 1);
        // The last word wakes them by any draw.
        for (int seed : new int[] {0, 1, 873, TO_NOUGHT, 65535, 65536}) {
            SleepWords last = Check.of(ONE + "word a odds 1 minutes 1");
            last.seed(seed);
            EDGES.due("the only word by SEED " + seed, last.say(0), 1);
        }
    }

    private static void nothingMore() {
        EDGES.refused("say(0)", States::woken, x -> x.say(0), -1, 5);
        EDGES.refused("say(3)", States::woken, x -> x.say(3), -1, 5);
        EDGES.refused("day()", States::woken, SleepWords::day, -1, 5);
        EDGES.told("harm()", States::woken, SleepWords::harm, 0);
        EDGES.told("harmed()", States::woken, SleepWords::harmed, 25);
        EDGES.told("winters(65536, 90)", States::woken, x -> x.winters(65536, 90), 0);
    }

    private static void seedToo() {
        SleepWords x = States.busy();
        // The latest is tend(1, 4), ahead of which SEED was what say(1) left.
        EDGES.due("undo()", x.undo(), true);
        EDGES.due("SEED ahead of tend(1, 4)", x.size(10), 74);
        EDGES.due("sleeper(4, 4)", x.sleeper(4, 4), -2);
        EDGES.due("sleeper(1, 4) stays", x.sleeper(1, 4), 0);
        x.undo();
        EDGES.due("sleeper(1, 4)", x.sleeper(1, 4), -2);
        EDGES.due("SEED ahead of tend(0, 1)", x.size(10), 74);
        x.undo();
        EDGES.due("SEED ahead of say(1)", x.size(10), 0);
        EDGES.due("word(1, 2)", x.word(1, 2), 0);
        EDGES.due("harmed() stays", x.harmed(), 25);
        x.undo();
        EDGES.due("harmed()", x.harmed(), 0);
        EDGES.due("size(8)", x.size(8), 0);
        EDGES.due("sleeper(0, 4) ahead of day()", x.sleeper(0, 4), 0);
        EDGES.due("images stay", x.size(12), 2);
        SleepWords woken = States.woken();
        woken.undo();
        EDGES.due("asleep again", woken.size(9), 0);
        EDGES.due("SEED ahead of say(2)", woken.size(10), 74);
        EDGES.due("word(2, 2)", woken.word(2, 2), 0);
        EDGES.due("say(2) wakes them again", woken.say(2), 1);
    }

    private static void sixteenKept() {
        for (int acts = 0; acts <= 40; acts++) {
            SleepWords x = Counties.full();
            for (int d = 0; d < acts; d++) {
                x.seed(d);
                x.day();
                EDGES.due("size(11) behind " + (d + 1) + " acts", x.size(11), Math.min(d + 1, 16));
            }
            int kept = Math.min(acts, 16);
            for (int i = 1; i <= kept; i++) {
                EDGES.due("undo() " + i + " of " + acts, x.undo(), true);
                EDGES.due("size(8)", x.size(8), acts - i);
                EDGES.due("harmed()", x.harmed(), 35 * (acts - i));
                EDGES.due("SEED", x.size(10), acts - i);
                EDGES.due("size(11)", x.size(11), kept - i);
            }
            EDGES.due("undo() of no more, " + acts + " acts", x.undo(), false);
            EDGES.due("trouble()", x.trouble(), 6);
            EDGES.due("size(8) stays", x.size(8), acts - kept);
        }
        // To and fro: what was undone is gone, what comes then is kept.
        SleepWords x = Counties.full();
        for (int round = 1; round <= 6; round++) {
            for (int d = 0; d < 13; d++) {
                x.day();
            }
            for (int d = 0; d < 7; d++) {
                EDGES.due("undo() in round " + round, x.undo(), true);
            }
            EDGES.due("size(8) behind round " + round, x.size(8), 6 * round);
            EDGES.due("size(11) behind round " + round, x.size(11), Math.min(6 * round, 9));
        }
    }

    private static void threeImages() {
        SleepWords x = Counties.full();
        for (int i = 0; i < 3; i++) {
            EDGES.due("size(12)", x.size(12), i);
            EDGES.due("image()", x.image(), i);
            x.day();
        }
        EDGES.due("size(12), no room", x.size(12), 3);
        EDGES.refused("image(), no room", States::brim, SleepWords::image, -1, 3);
        // Gone back to one, there is no room still.
        x.back(0);
        EDGES.due("image() behind back", x.image(), -1);
        EDGES.due("trouble()", x.trouble(), 3);
    }

    private static void nothingUndone() {
        for (int image = 0; image < 3; image++) {
            SleepWords x = States.brim();
            EDGES.due("size(11)", x.size(11), 16);
            EDGES.due("back(" + image + ")", x.back(image), true);
            EDGES.due("size(11) then", x.size(11), 0);
            EDGES.due("undo()", x.undo(), false);
            EDGES.due("trouble()", x.trouble(), 6);
            int day = x.size(8);
            x.day();
            EDGES.due("undo() of an act since", x.undo(), true);
            EDGES.due("size(8)", x.size(8), day);
            EDGES.due("undo() no further", x.undo(), false);
        }
    }

    // ---- tend

    private static void tends() {
        SleepWords x = Counties.full();
        EDGES.due("tend(0, 0)", number(x.tend(0, 0)), 1);
        EDGES.due("trouble()", x.trouble(), 0);
        EDGES.due("size(11)", x.size(11), 1);
        x.undo();
        EDGES.same("tend(0, 0) undone", x, Counties.full());
        // All hands of all, the last sleeper by the last awake one.
        SleepWords last = Check.of(States.BRIM);
        int[] by = {0, 2, 2, -2, -2, 1, 1};
        for (int s = 0; s < 7; s++) {
            if (by[s] >= 0) {
                EDGES.due("tend(" + by[s] + ", " + s + ")", last.tend(by[s], s), true);
            }
        }
        for (int s = 0; s < 7; s++) {
            EDGES.due("sleeper(" + s + ", 4)", last.sleeper(s, 4), by[s]);
        }
    }

    private static void tendNoneSuch() {
        EDGES.oneOf(3, "tend(, 0)", (x, a) -> number(x.tend(a, 0)), 0);
        EDGES.refusedAll("tend(0, )", (x, s) -> number(x.tend(0, s)), 0, 1, -1, 7, 8, 31, 32, 33, Integer.MIN_VALUE, Integer.MAX_VALUE);
        EDGES.refused("tend(0, 5) of five", States::busy, x -> number(x.tend(0, 5)), 0, 1);
        EDGES.refused("tend(0, 0) with nobody awake", States::lean, x -> number(x.tend(0, 0)), 0, 1);
    }

    private static void tendNotSo() {
        EDGES.refused("tend(0, 1), tended by it", States::busy, x -> number(x.tend(0, 1)), 0, 5);
        EDGES.refused("tend(1, 4), tended, no hand free", States::busy, x -> number(x.tend(1, 4)), 0, 5);
        EDGES.refused("tend(2, 0), tended by another", States::brim, x -> number(x.tend(2, 0)), 0, 5);
        EDGES.refused("tend(0, 2), too far", States::busy, x -> number(x.tend(0, 2)), 0, 5);
        EDGES.refused("tend(1, 0), too far, no hand free", States::busy, x -> number(x.tend(1, 0)), 0, 5);
        EDGES.refused("tend(0, 0), awake", States::woken, x -> number(x.tend(0, 0)), 0, 5);
        EDGES.refused("tend(1, 4), awake", States::woken, x -> number(x.tend(1, 4)), 0, 5);
        EDGES.refused("tend(0, 1), awake and tended", States::woken, x -> number(x.tend(0, 1)), 0, 5);
        // The last house within reach, and the first beyond, on both sides: may lives in 2, reach 1; joe in 6, reach 2.
        boolean[][] within = {{true, true, false, true, false}, {false, false, true, false, true}};
        for (int a = 0; a < 2; a++) {
            for (int s = 0; s < 5; s++) {
                SleepWords x = Counties.full();
                EDGES.due("tend(" + a + ", " + s + ")", x.tend(a, s), within[a][s]);
                EDGES.due("trouble()", x.trouble(), within[a][s] ? 0 : 5);
            }
        }
    }

    private static void tendNoHand() {
        EDGES.refused("tend(1, 2), one hand", States::busy, x -> number(x.tend(1, 2)), 0, 3);
        EDGES.refused("tend(0, 1), one hand", States::brim, x -> number(x.tend(0, 1)), 0, 3);
        SleepWords x = States.busy();
        EDGES.due("tend(0, 0), the last hand", x.tend(0, 0), true);
        EDGES.due("tend(0, 3), no hand", x.tend(0, 3), false);
        EDGES.due("trouble()", x.trouble(), 3);
        // Undone or a day on, the hand is free again.
        x.undo();
        EDGES.due("tend(0, 3), undone", x.tend(0, 3), true);
        x.day();
        EDGES.due("tend(0, 0), the next day", x.tend(0, 0), true);
    }

    // ---- day, say, seed

    private static void harmOfDay() {
        EDGES.due("day() without HARM", Counties.lean().day(), 0);
        EDGES.due("day() of nobody tended", Counties.full().day(), 35);
        SleepWords x = States.busy();
        EDGES.due("day() of two tended", x.day(), 14);
        EDGES.due("trouble()", x.trouble(), 0);
        EDGES.due("size(8)", x.size(8), 2);
        EDGES.due("size(11)", x.size(11), 6);
        x.undo();
        x.seed(4321);
        EDGES.same("day() undone", x, States.busy());
    }

    /** An object isn't used for so many calls; the class keeps to the sentence all the same. */
    private static void lastDay() {
        SleepWords x = Counties.full();
        for (int d = 1; d <= 999; d++) {
            EDGES.due("day " + d, x.day(), 35);
        }
        EDGES.due("size(8)", x.size(8), 999);
        EDGES.due("day 1000", x.day(), -1);
        EDGES.due("trouble()", x.trouble(), 3);
        EDGES.due("size(8) stays", x.size(8), 999);
        EDGES.due("harmed() stays", x.harmed(), 999 * 35);
        EDGES.due("size(11) stays", x.size(11), 16);
        EDGES.due("undo()", x.undo(), true);
        EDGES.due("day 999 again", x.day(), 35);
        // Other acts go on.
        EDGES.due("tend(0, 0)", x.tend(0, 0), true);
        x.say(1);
        EDGES.due("say(2)", x.say(2), 1);
        EDGES.due("day 1000, awake", x.day(), -1);
        EDGES.due("trouble(), the first that is told", x.trouble(), 3);
    }

    private static void wakeOrNot() {
        SleepWords x = Counties.full();
        EDGES.due("say(1)", x.say(1), 0);
        EDGES.due("trouble()", x.trouble(), 0);
        EDGES.due("size(9)", x.size(9), 0);
        EDGES.due("size(11)", x.size(11), 1);
        EDGES.due("word(1, 2)", x.word(1, 2), 1);
        EDGES.due("say(2)", x.say(2), 1);
        EDGES.due("trouble()", x.trouble(), 0);
        EDGES.due("size(9)", x.size(9), 1);
        EDGES.due("size(11)", x.size(11), 2);
        EDGES.due("word(2, 2)", x.word(2, 2), 1);
        x.undo();
        x.undo();
        EDGES.same("say(1) and say(2) undone", x, Counties.full());
    }

    private static void sayNoneSuch() {
        EDGES.oneOf(4, "say()", SleepWords::say, -1);
    }

    private static void sayNotSo() {
        EDGES.refused("say(1), said already", States::busy, x -> x.say(1), -1, 5);
        EDGES.refused("say(3), bee isn't said", States::busy, x -> x.say(3), -1, 5);
        EDGES.refused("say(2), ant isn't said", States::fresh, x -> x.say(2), -1, 5);
        for (int w = 0; w < 4; w++) {
            int word = w;
            EDGES.refused("say(" + w + "), awake", States::woken, x -> x.say(word), -1, 5);
        }
        for (int w : new int[] {1, 2, 4, 5}) {
            EDGES.refused("say(" + w + ")", States::brim, x -> x.say(w), -1, 5);
        }
        // By others too: c waits for a, though b alone is told to come before it.
        SleepWords x = Check.of(ONE + "word a odds 1 minutes 1;word b odds 1 minutes 1;word c odds 97 minutes 1;before b c;before a b");
        EDGES.due("say(2)", x.say(2), -1);
        EDGES.due("trouble()", x.trouble(), 5);
        EDGES.due("say(0)", x.say(0), 0);
        EDGES.due("say(2)", x.say(2), -1);
        EDGES.due("say(1)", x.say(1), 0);
        EDGES.due("say(2)", x.say(2), 1);
    }

    private static void seedIsNoAct() {
        for (Supplier<SleepWords> state : States.told()) {
            SleepWords x = state.get();
            int acts = x.size(11);
            int seed = x.size(10);
            EDGES.due("seed(65536)", x.seed(65536), true);
            EDGES.due("trouble()", x.trouble(), 0);
            EDGES.due("size(10)", x.size(10), 65536);
            EDGES.due("size(11)", x.size(11), acts);
            EDGES.due("seed() again", x.seed(seed), true);
            EDGES.same("seed() there and back", x, state.get());
        }
        SleepWords x = Counties.full();
        x.seed(5);
        EDGES.due("undo()", x.undo(), false);
        EDGES.due("SEED stays", x.size(10), 5);
    }

    private static void seedNeedsCounty() {
        EDGES.needsCounty("seed(0)", x -> number(x.seed(0)), 0);
        EDGES.needsCounty("seed(-1)", x -> number(x.seed(-1)), 0);
    }

    private static void seedBounds() {
        EDGES.bounds("seed()", (x, v) -> number(x.seed(v)), 0, 0, 65536);
        for (Supplier<SleepWords> state : States.told()) {
            for (int v : new int[] {0, 1, 65535, 65536}) {
                SleepWords x = state.get();
                EDGES.due("seed(" + v + ")", x.seed(v), true);
                EDGES.due("size(10)", x.size(10), v);
            }
        }
    }

    // ---- undo, image, back

    private static void undoesEach() {
        SleepWords x = States.fresh();
        x.tend(0, 3);
        EDGES.due("undo() of TEND", x.undo(), true);
        EDGES.due("trouble()", x.trouble(), 0);
        EDGES.same("TEND undone", x, States.fresh());
        SleepWords y = States.fresh();
        y.day();
        EDGES.due("undo() of DAY", y.undo(), true);
        EDGES.same("DAY undone", y, States.fresh());
        SleepWords z = States.fresh();
        z.say(0);
        EDGES.due("undo() of SAY", z.undo(), true);
        EDGES.same("SAY undone", z, States.fresh());
        // What is refused is no act: the latest before it is undone.
        SleepWords refused = States.fresh();
        refused.day();
        refused.say(2);
        refused.tend(0, 2);
        refused.seed(-1);
        refused.back(0);
        EDGES.due("undo() behind refused ones", refused.undo(), true);
        EDGES.same("DAY undone", refused, States.fresh());
    }

    private static void nothingToUndo() {
        for (Supplier<SleepWords> state : States.untouched()) {
            EDGES.refused("undo()", state, x -> number(x.undo()), 0, 6);
        }
        SleepWords x = States.fresh();
        x.day();
        x.undo();
        EDGES.due("undo() of all undone", x.undo(), false);
        EDGES.due("trouble()", x.trouble(), 6);
        EDGES.same("undo() refused", x, States.fresh());
        SleepWords told = States.busy();
        told.county(Counties.LEAN.length());
        EDGES.due("undo() of another county", told.undo(), false);
        EDGES.due("trouble()", told.trouble(), 6);
    }

    private static void imageNumbers() {
        SleepWords x = Counties.full();
        for (int i = 0; i < 3; i++) {
            EDGES.due("image()", x.image(), i);
            EDGES.due("trouble()", x.trouble(), 0);
            EDGES.due("no ACT", x.size(11), 0);
            EDGES.due("size(12)", x.size(12), i + 1);
        }
        // Another county begins with 0 again.
        Check.tell(x, Counties.LEAN);
        EDGES.due("image() of another county", x.image(), 0);
        EDGES.due("image() when awake", States.woken().image(), 1);
    }

    private static void imageRefused() {
        EDGES.needsCounty("image()", SleepWords::image, -1);
        EDGES.refused("image()", States::brim, SleepWords::image, -1, 3);
        SleepWords x = States.busy();
        EDGES.due("image(), the last", x.image(), 2);
        EDGES.due("image(), no room", x.image(), -1);
        EDGES.due("trouble()", x.trouble(), 3);
    }

    private static void asByImage() {
        SleepWords x = States.busy();
        x.day();
        x.say(0);
        EDGES.due("back(1)", x.back(1), true);
        EDGES.due("trouble()", x.trouble(), 0);
        int[] sizes = {1, 0, 4321, 0, 2};
        for (int what = 0; what < 5; what++) {
            EDGES.due("size(" + (8 + what) + ")", x.size(8 + what), sizes[what]);
        }
        EDGES.due("sleeper(1, 4)", x.sleeper(1, 4), 0);
        EDGES.due("sleeper(4, 4)", x.sleeper(4, 4), 1);
        EDGES.due("harmed()", x.harmed(), 25);
        EDGES.due("next()", x.next(), 5);
        EDGES.due("back(0)", x.back(0), true);
        EDGES.due("sleeper(1, 4), as by 0", x.sleeper(1, 4), -2);
        EDGES.due("next(), as by 0", x.next(), 3);
        EDGES.due("SEED, as by 0", x.size(10), 0);
        EDGES.due("harmed(), as by 0", x.harmed(), 25);
        // What is done then changes no IMAGE.
        x.day();
        x.tend(0, 0);
        x.seed(9);
        EDGES.due("back(1) again", x.back(1), true);
        SleepWords twin = States.busy();
        twin.back(1);
        EDGES.same("back(1)", x, twin);
        // Out of being awake, and into it.
        SleepWords woken = States.woken();
        EDGES.due("image()", woken.image(), 1);
        woken.back(0);
        EDGES.due("asleep as by 0", woken.size(9), 0);
        EDGES.due("say(1)", woken.say(1), 0);
        woken.back(1);
        EDGES.due("awake as by 1", woken.size(9), 1);
        EDGES.due("say(0)", woken.say(0), -1);
    }

    private static void backRefused() {
        for (Supplier<SleepWords> state : States.untouched()) {
            for (int image : new int[] {0, -1, 1, 3, Integer.MIN_VALUE, Integer.MAX_VALUE}) {
                EDGES.refused("back(" + image + ") of none", state, x -> number(x.back(image)), 0, 1);
            }
        }
        for (int image : new int[] {2, 3, -1, Integer.MIN_VALUE, Integer.MAX_VALUE}) {
            EDGES.refused("back(" + image + ") of two", States::busy, x -> number(x.back(image)), 0, 1);
        }
        for (int image : new int[] {3, 4, -1, Integer.MIN_VALUE, Integer.MAX_VALUE}) {
            EDGES.refused("back(" + image + ") of three", States::brim, x -> number(x.back(image)), 0, 1);
        }
        SleepWords x = States.busy();
        EDGES.due("back(1), the last", x.back(1), true);
        // Those of an earlier county are gone.
        x.county(Counties.LEAN.length());
        EDGES.due("back(0) of another county", x.back(0), false);
        EDGES.due("trouble()", x.trouble(), 1);
    }
}
