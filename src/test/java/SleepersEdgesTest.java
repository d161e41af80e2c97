import java.util.List;
import java.util.function.Supplier;

/** The boundary cases of HARM and TENDING and of the promises 9 to 19. */
public final class SleepersEdgesTest {
    private static final Edges EDGES = new Edges("SleepersEdgesTest");
    private static final String HEAD = Counties.HEAD;

    public static void main(String[] args) {
        terms();
        EDGES.promise(9, "Of a sleeper 0 KIND (0 plain, 1 old, 2 hardy, 3 sheep), 1 house, 2 frail", SleepersEdgesTest::sleeperAsTold);
        EDGES.promise(9, "3 HARM so far", SleepersEdgesTest::harmSoFar);
        EDGES.promise(9, "4 who tends it NOW (-2)", SleepersEdgesTest::whoTendsNow);
        EDGES.promise(9, "5 by which of the awake it may be tended, as bits", SleepersEdgesTest::byWhichOfTheAwake);
        EDGES.promise(9, "NONE: 1.", SleepersEdgesTest::sleeperRefused);
        EDGES.promise(10, "Of an awake one 0 house, 1 hands, 2 reach", SleepersEdgesTest::awakeAsTold);
        EDGES.promise(10, "3 whom it tends NOW, as bits, 4 hands free NOW", SleepersEdgesTest::handsNow);
        EDGES.promise(10, "NONE: 1.", SleepersEdgesTest::awakeRefused);
        EDGES.promise(11, "HARM of the day NOW to one, if DAY came.", SleepersEdgesTest::ifDayCame);
        EDGES.promise(11, "NONE: 1.", () -> EDGES.oneOf(2, "harmOf()", SleepWords::harmOf, -1));
        EDGES.promise(12, "To all.", SleepersEdgesTest::toAll);
        EDGES.promise(12, "NONE: 1 (no COUNTY).", () -> EDGES.needsCounty("harm()", SleepWords::harm, -1));
        EDGES.promise(13, "All HARM so far.", SleepersEdgesTest::allSoFar);
        EDGES.promise(13, "NONE: 1 (no COUNTY).", () -> EDGES.needsCounty("harmed()", SleepWords::harmed, -1));
        EDGES.promise(14, "Who has most HARM so far, the first such", SleepersEdgesTest::worstFirst);
        EDGES.promise(14, "-2 nobody has any", SleepersEdgesTest::nobodyHarmed);
        EDGES.promise(14, "NONE: 1 (no COUNTY).", () -> EDGES.needsCounty("worst()", SleepWords::worst, -1));
        EDGES.promise(15, "TENDING (whatever is tended NOW): the sum of those tended.", SleepersEdgesTest::whateverIsTended);
        EDGES.promise(15, "NONE: 1 (no COUNTY).", () -> EDGES.needsCounty("tending()", SleepWords::tending, -1));
        EDGES.promise(16, "Who tends one by it; -2 nobody.", SleepersEdgesTest::nobodyByIt);
        EDGES.promise(16, "NONE: 1.", () -> EDGES.oneOf(2, "tendedBy()", SleepWords::tendedBy, -1));
        EDGES.promise(17, "Who isn't tended by it, as bits.", SleepersEdgesTest::leftOnes);
        EDGES.promise(17, "NONE: 1 (no COUNTY).", () -> EDGES.needsCounty("left()", SleepWords::left, -1));
        EDGES.promise(18, "By how much TENDING is less without one of the awake.", SleepersEdgesTest::worth);
        EDGES.promise(18, "NONE: 1.", () -> EDGES.oneOf(3, "worthOf()", SleepWords::worthOf, -1));
        EDGES.promise(19, "The awake one by whom, had it a hand more, TENDING is most more, the first such", SleepersEdgesTest::handMore);
        EDGES.promise(19, "-2 none.", SleepersEdgesTest::noHandMore);
        EDGES.promise(19, "NONE: 1 (no COUNTY).", () -> EDGES.needsCounty("bestHand()", SleepWords::bestHand, -1));
        EDGES.end(9, 19);
    }

    private static void terms() {
        EDGES.term("II", "HARM of a day to a sleeper whom nobody tends: frail", SleepersEdgesTest::whomNobodyTends);
        EDGES.term("II", "of an old one twice as much", () -> harmsByFrail("old", 2, 1));
        EDGES.term("II", "of a hardy one half (downwards)", () -> harmsByFrail("hardy", 1, 2));
        EDGES.term("II", "of a sheep nothing if another sheep is tended that day", SleepersEdgesTest::anotherSheep);
        EDGES.term("II", "One may tend sleepers in houses no further than reach from his own", SleepersEdgesTest::noFurther);
        EDGES.term("II", "as many as he has hands for", SleepersEdgesTest::asManyHands);
        EDGES.term("II", "TENDING: the awake to sleepers so that the sum of frail (twice, half by kinds; sheep as plain ones) of those who are tended is greatest",
            SleepersEdgesTest::greatest);
        EDGES.term("II", "of like ones the first by sleepers' awake (nobody behind all)", SleepersEdgesTest::likeOnes);
    }

    // ---- HARM

    private static void harmsByFrail(String kind, int times, int parts) {
        for (int frail = 1; frail <= 20; frail++) {
            SleepWords x = Check.of(HEAD + "sleeper s " + kind + " in 0 frail " + frail + ";awake a in 0 hands 1 reach 0");
            int harm = frail * times / parts;
            EDGES.due(kind + " " + frail + ", harmOf(0)", x.harmOf(0), harm);
            EDGES.due(kind + " " + frail + ", harm()", x.harm(), harm);
            EDGES.due(kind + " " + frail + ", tending()", x.tending(), harm);
            EDGES.due(kind + " " + frail + ", day()", x.day(), harm);
            EDGES.due(kind + " " + frail + ", harmed()", x.harmed(), harm);
        }
    }

    private static void whomNobodyTends() {
        harmsByFrail("plain", 1, 1);
        harmsByFrail("sheep", 1, 1);
        for (String kind : new String[] {"plain", "old", "hardy", "sheep"}) {
            SleepWords x = Check.of(HEAD + "sleeper s " + kind + " in 0 frail 20;awake a in 0 hands 1 reach 0");
            x.tend(0, 0);
            EDGES.due(kind + " tended, harmOf(0)", x.harmOf(0), 0);
            EDGES.due(kind + " tended, day()", x.day(), 0);
            EDGES.due(kind + " tended no more, harmOf(0) > 0", x.harmOf(0) > 0, true);
        }
    }

    private static void anotherSheep() {
        String text = HEAD + "sleeper a sheep in 0 frail 20;sleeper b plain in 0 frail 3;sleeper c sheep in 0 frail 5;sleeper d old in 0 frail 4;"
            + "sleeper e hardy in 0 frail 6;awake p in 0 hands 4 reach 0";
        int[] nobody = {20, 3, 5, 8, 3};
        for (int tended = 0; tended < 5; tended++) {
            SleepWords x = Check.of(text);
            x.tend(0, tended);
            boolean sheep = tended == 0 || tended == 2;
            for (int s = 0; s < 5; s++) {
                boolean spared = s == tended || sheep && (s == 0 || s == 2);
                EDGES.due(tended + " tended, harmOf(" + s + ")", x.harmOf(s), spared ? 0 : nobody[s]);
            }
            // That day only.
            x.day();
            EDGES.due(tended + " was tended, harm()", x.harm(), 39);
        }
        SleepWords both = Check.of(text);
        both.tend(0, 0);
        both.tend(0, 2);
        EDGES.due("both tended, harm()", both.harm(), 14);
        SleepWords lone = Check.of(HEAD + "sleeper a sheep in 0 frail 20;sleeper b plain in 0 frail 3;awake p in 0 hands 1 reach 0");
        lone.tend(0, 1);
        EDGES.due("no other sheep, harmOf(0)", lone.harmOf(0), 20);
    }

    private static void noFurther() {
        for (int own = 0; own <= 9; own++) {
            for (int house = 0; house <= 9; house++) {
                for (int reach = 0; reach <= 9; reach++) {
                    boolean may = house - own <= reach && own - house <= reach;
                    SleepWords x = Check.of(HEAD + "sleeper s plain in " + house + " frail 1;awake a in " + own + " hands 1 reach " + reach);
                    String name = "from " + own + " to " + house + " by " + reach;
                    EDGES.due(name + ", sleeper(0, 5)", x.sleeper(0, 5), may ? 1 : 0);
                    EDGES.due(name + ", tendedBy(0)", x.tendedBy(0), may ? 0 : -2);
                    EDGES.due(name + ", tend(0, 0)", x.tend(0, 0), may);
                    EDGES.due(name + ", trouble()", x.trouble(), may ? 0 : 5);
                }
            }
        }
    }

    private static final String FIVE = "sleeper a plain in 0 frail 1;sleeper b plain in 0 frail 2;sleeper c plain in 0 frail 3;"
        + "sleeper d plain in 0 frail 4;sleeper e plain in 0 frail 5";

    private static void asManyHands() {
        for (int hands = 1; hands <= 4; hands++) {
            SleepWords x = Check.of(HEAD + FIVE + ";awake p in 0 hands " + hands + " reach 0");
            EDGES.due(hands + " hands, left()", x.left(), (1 << 5 - hands) - 1);
            for (int s = 0; s < 5; s++) {
                EDGES.due(hands + " hands, tend(0, " + s + ")", x.tend(0, s), s < hands);
                EDGES.due(hands + " hands, trouble()", x.trouble(), s < hands ? 0 : 3);
            }
            EDGES.due(hands + " hands, awake(0, 4)", x.awake(0, 4), 0);
        }
    }

    // ---- TENDING

    private static void greatest() {
        // One hand for two: who weighs more by a little is tended, wherever it stands.
        String[][] pairs = {{"old in 0 frail 4", "plain in 0 frail 7"}, {"old in 0 frail 4", "hardy in 0 frail 15"}, {"plain in 0 frail 7", "hardy in 0 frail 13"},
            {"sheep in 0 frail 8", "plain in 0 frail 7"}, {"plain in 0 frail 8", "sheep in 0 frail 7"}, {"hardy in 0 frail 20", "sheep in 0 frail 9"},
            {"sheep in 0 frail 3", "old in 0 frail 1"}};
        for (String[] pair : pairs) {
            SleepWords first = Check.of(HEAD + "sleeper a " + pair[0] + ";sleeper b " + pair[1] + ";awake p in 0 hands 1 reach 0");
            EDGES.due(pair[0] + ", then " + pair[1], first.left(), 2);
            SleepWords last = Check.of(HEAD + "sleeper a " + pair[1] + ";sleeper b " + pair[0] + ";awake p in 0 hands 1 reach 0");
            EDGES.due(pair[1] + ", then " + pair[0], last.left(), 1);
        }
        // A sheep more is counted though one of them would do.
        SleepWords sheep = Check.of(HEAD + "sleeper a sheep in 0 frail 9;sleeper b sheep in 0 frail 9;sleeper c plain in 0 frail 8;awake p in 0 hands 2 reach 0");
        EDGES.due("two sheep", sheep.tending(), 18);
        EDGES.due("two sheep, left()", sheep.left(), 4);
        // All rooms full, all tended.
        SleepWords all = Check.of(HEAD + FIVE + ";sleeper f old in 0 frail 20;sleeper g old in 0 frail 20;"
            + "awake p in 0 hands 1 reach 0;awake q in 0 hands 4 reach 0;awake r in 0 hands 2 reach 0");
        EDGES.due("seven tended", all.tending(), 95);
        EDGES.due("seven tended, left()", all.left(), 0);
        // As many sleepers, awake and hands as can be told.
        StringBuilder most = new StringBuilder("county lacks 1 snow 100");
        for (char c = 'a'; c <= 'g'; c++) {
            most.append(";sleeper ").append(c).append(" old in 0 frail 20");
        }
        SleepWords x = Check.of(most + ";awake p in 9 hands 4 reach 9;awake q in 9 hands 4 reach 9;awake r in 9 hands 4 reach 9");
        EDGES.due("the most, tending()", x.tending(), 280);
        EDGES.due("the most, bestHand()", x.bestHand(), -2);
        for (int s = 0; s < 7; s++) {
            EDGES.due("the most, tendedBy(" + s + ")", x.tendedBy(s), s / 4);
        }
        for (int a = 0; a < 3; a++) {
            EDGES.due("the most, worthOf(" + a + ")", x.worthOf(a), 0);
        }
    }

    private static void likeOnes() {
        SleepWords x = Check.of(HEAD + "sleeper a plain in 0 frail 5;sleeper b plain in 0 frail 5;sleeper c plain in 0 frail 5;sleeper d plain in 0 frail 5;"
            + "awake p in 0 hands 1 reach 0;awake q in 0 hands 1 reach 0;awake r in 0 hands 1 reach 0");
        int[] by = {0, 1, 2, -2};
        for (int s = 0; s < 4; s++) {
            EDGES.due("like sleepers, tendedBy(" + s + ")", x.tendedBy(s), by[s]);
        }
        // Nobody comes behind all the awake: the first sleeper is tended, though by the last of them.
        SleepWords y = Check.of(HEAD + "sleeper a plain in 9 frail 5;sleeper b plain in 0 frail 5;sleeper c plain in 0 frail 5;"
            + "awake p in 5 hands 1 reach 0;awake q in 0 hands 1 reach 0;awake r in 4 hands 1 reach 5");
        int[] others = {2, 1, -2};
        for (int s = 0; s < 3; s++) {
            EDGES.due("nobody behind all, tendedBy(" + s + ")", y.tendedBy(s), others[s]);
        }
        // One who weighs nothing is tended, where a hand is free, and the first awake one who can does it.
        SleepWords z = Check.of(HEAD + "sleeper a hardy in 0 frail 1;sleeper b plain in 0 frail 1;awake p in 0 hands 1 reach 0;awake q in 0 hands 1 reach 0");
        EDGES.due("nothing, tendedBy(0)", z.tendedBy(0), 0);
        EDGES.due("nothing, tendedBy(1)", z.tendedBy(1), 1);
        SleepWords last = Check.of(HEAD + "sleeper a plain in 0 frail 1;sleeper b hardy in 0 frail 1;awake p in 0 hands 2 reach 0");
        EDGES.due("nothing at last, tendedBy(1)", last.tendedBy(1), 0);
    }

    // ---- sleepers and the awake, as told and NOW

    private static void sleeperAsTold() {
        int[][] told = {{0, 0, 20}, {1, 1, 20}, {2, 2, 19}, {3, 3, 18}, {3, 4, 17}, {1, 9, 1}, {0, 9, 1}};
        for (int i = 0; i < 7; i++) {
            for (int j = 0; j < 3; j++) {
                int s = i;
                int what = j;
                EDGES.told("sleeper(" + s + ", " + what + ")", States::brim, x -> x.sleeper(s, what), told[i][j]);
            }
        }
    }

    private static void awakeAsTold() {
        int[][] told = {{0, 1, 3}, {9, 4, 0}, {5, 2, 9}};
        for (int i = 0; i < 3; i++) {
            for (int j = 0; j < 3; j++) {
                int a = i;
                int what = j;
                // One of the first one's hands tends NOW: its hands as told stay.
                EDGES.told("awake(" + a + ", " + what + ")", States::brim, x -> x.awake(a, what), told[i][j]);
            }
        }
        EDGES.told("awake(1, 1) when awake", States::woken, x -> x.awake(1, 1), 1);
    }

    private static void harmSoFar() {
        EDGES.told("sleeper(0, 3) ahead of all days", States::fresh, x -> x.sleeper(0, 3), 0);
        EDGES.told("sleeper(0, 3), tended", States::busy, x -> x.sleeper(0, 3), 0);
        EDGES.told("sleeper(1, 3)", States::busy, x -> x.sleeper(1, 3), 12);
        EDGES.told("sleeper(1, 3) when awake", States::woken, x -> x.sleeper(1, 3), 12);
        EDGES.told("sleeper(1, 3) of 16 days", States::brim, x -> x.sleeper(1, 3), 640);
        EDGES.told("sleeper(6, 3) of 16 days", States::brim, x -> x.sleeper(6, 3), 16);
    }

    private static void whoTendsNow() {
        int[] by = {-2, 0, -2, -2, 1};
        for (int i = 0; i < 5; i++) {
            int s = i;
            EDGES.told("sleeper(" + s + ", 4) of nobody tended", States::fresh, x -> x.sleeper(s, 4), -2);
            EDGES.told("sleeper(" + s + ", 4)", States::busy, x -> x.sleeper(s, 4), by[i]);
        }
        SleepWords x = States.busy();
        x.day();
        EDGES.due("sleeper(1, 4) behind the day", x.sleeper(1, 4), -2);
        EDGES.due("sleeper(4, 4) behind the day", x.sleeper(4, 4), -2);
        EDGES.told("sleeper(1, 4) when awake", States::woken, y -> y.sleeper(1, 4), 0);
    }

    private static void byWhichOfTheAwake() {
        int[] may = {5, 5, 5, 5, 4, 6, 6};
        for (int i = 0; i < 7; i++) {
            int s = i;
            EDGES.told("sleeper(" + s + ", 5)", States::brim, x -> x.sleeper(s, 5), may[i]);
        }
        EDGES.told("sleeper(0, 5) with nobody awake", States::lean, x -> x.sleeper(0, 5), 0);
        SleepWords all = Check.of(HEAD + "sleeper s plain in 4 frail 1;awake a in 0 hands 1 reach 4;awake b in 9 hands 1 reach 5;awake c in 4 hands 1 reach 0");
        EDGES.due("sleeper(0, 5) of all three", all.sleeper(0, 5), 7);
        all.tend(0, 0);
        EDGES.due("sleeper(0, 5) of one tended", all.sleeper(0, 5), 7);
    }

    private static void sleeperRefused() {
        EDGES.oneOf(2, "sleeper(, 0)", (x, s) -> x.sleeper(s, 0), -1);
        EDGES.refusedAll("sleeper(0, )", (x, what) -> x.sleeper(0, what), -1, 1, -1, 6, Integer.MIN_VALUE, Integer.MAX_VALUE);
    }

    private static void handsNow() {
        int[][] fresh = {{2, 2, 1, 0, 2}, {6, 1, 2, 0, 1}};
        int[][] busy = {{2, 2, 1, 2, 1}, {6, 1, 2, 16, 0}};
        for (int i = 0; i < 2; i++) {
            for (int j = 0; j < 5; j++) {
                int a = i;
                int what = j;
                EDGES.told("awake(" + a + ", " + what + ")", States::fresh, x -> x.awake(a, what), fresh[i][j]);
                EDGES.told("awake(" + a + ", " + what + ") NOW", States::busy, x -> x.awake(a, what), busy[i][j]);
            }
        }
        SleepWords x = States.busy();
        x.tend(0, 3);
        EDGES.due("awake(0, 3), both hands", x.awake(0, 3), 10);
        EDGES.due("awake(0, 4), both hands", x.awake(0, 4), 0);
        x.day();
        EDGES.due("awake(0, 3) behind the day", x.awake(0, 3), 0);
        EDGES.due("awake(0, 4) behind the day", x.awake(0, 4), 2);
        SleepWords four = Check.of(HEAD + FIVE + ";awake p in 0 hands 4 reach 0");
        for (int s = 0; s < 4; s++) {
            EDGES.due("awake(0, 4) of four hands", four.awake(0, 4), 4 - s);
            EDGES.due("awake(0, 3) of four hands", four.awake(0, 3), (1 << s) - 1);
            four.tend(0, s);
        }
        EDGES.due("awake(0, 4) of four hands at work", four.awake(0, 4), 0);
        EDGES.due("awake(0, 3) of four hands at work", four.awake(0, 3), 15);
    }

    private static void awakeRefused() {
        EDGES.oneOf(3, "awake(, 0)", (x, a) -> x.awake(a, 0), -1);
        EDGES.refusedAll("awake(0, )", (x, what) -> x.awake(0, what), -1, 1, -1, 5, Integer.MIN_VALUE, Integer.MAX_VALUE);
    }

    // ---- HARM NOW and so far

    private static void ifDayCame() {
        for (Supplier<SleepWords> state : List.of(States::lean, (Supplier<SleepWords>) States::fresh, States::busy, States::brim)) {
            for (int i = 0; i < state.get().size(2); i++) {
                int s = i;
                SleepWords x = state.get();
                int ahead = x.sleeper(s, 3);
                x.day();
                EDGES.told("harmOf(" + s + ")", state, y -> y.harmOf(s), x.sleeper(s, 3) - ahead);
            }
        }
        // Nothing more is harmed when they are awake.
        for (int i = 0; i < 5; i++) {
            int s = i;
            EDGES.told("harmOf(" + s + ") when awake", States::woken, x -> x.harmOf(s), 0);
        }
    }

    private static void toAll() {
        EDGES.told("harm() of a hardy one of 1", States::lean, SleepWords::harm, 0);
        EDGES.told("harm() of nobody tended", States::fresh, SleepWords::harm, 35);
        EDGES.told("harm() of two tended, a sheep among them", States::busy, SleepWords::harm, 14);
        EDGES.told("harm() when awake", States::woken, SleepWords::harm, 0);
        SleepWords all = Check.of(HEAD + "sleeper a plain in 0 frail 1;sleeper b old in 0 frail 2;awake p in 0 hands 2 reach 0");
        all.tend(0, 0);
        all.tend(0, 1);
        EDGES.due("harm() of all tended", all.harm(), 0);
    }

    private static void allSoFar() {
        EDGES.told("harmed() ahead of all days", States::fresh, SleepWords::harmed, 0);
        EDGES.told("harmed()", States::busy, SleepWords::harmed, 25);
        EDGES.told("harmed() when awake", States::woken, SleepWords::harmed, 25);
        EDGES.told("harmed() of 16 days", States::brim, SleepWords::harmed, 16 * (20 + 40 + 9 + 18 + 17 + 2 + 1));
    }

    private static void worstFirst() {
        EDGES.told("worst() of 12, 4, 4, 5", States::busy, SleepWords::worst, 1);
        EDGES.told("worst() when awake", States::woken, SleepWords::worst, 1);
        SleepWords like = Check.of(HEAD + "sleeper a hardy in 0 frail 7;sleeper b plain in 0 frail 4;sleeper c old in 0 frail 2;sleeper d sheep in 0 frail 4");
        like.day();
        EDGES.due("worst() of like ones", like.worst(), 1);
        SleepWords first = Check.of(HEAD + "sleeper a plain in 0 frail 5;sleeper b plain in 0 frail 4;sleeper c plain in 0 frail 5");
        first.day();
        EDGES.due("worst(), the first", first.worst(), 0);
        SleepWords last = Check.of(HEAD + FIVE + ";sleeper f plain in 0 frail 6;sleeper g plain in 0 frail 7");
        last.day();
        EDGES.due("worst(), the last", last.worst(), 6);
        SleepWords one = Check.of(HEAD + "sleeper a hardy in 0 frail 1;sleeper b plain in 0 frail 1");
        one.day();
        EDGES.due("worst() by a HARM of 1", one.worst(), 1);
    }

    private static void nobodyHarmed() {
        EDGES.told("worst() ahead of all days", States::fresh, SleepWords::worst, -2);
        SleepWords x = Counties.lean();
        for (int d = 0; d < 5; d++) {
            x.day();
        }
        EDGES.due("worst() of days without HARM", x.worst(), -2);
        EDGES.due("trouble()", x.trouble(), 0);
    }

    // ---- by TENDING

    private static void whateverIsTended() {
        for (Supplier<SleepWords> state : List.of((Supplier<SleepWords>) States::fresh, States::busy, States::woken)) {
            EDGES.told("tending()", state, SleepWords::tending, 27);
        }
        SleepWords x = Counties.full();
        x.tend(0, 3);
        x.tend(1, 2);
        EDGES.due("tending(), others tended NOW", x.tending(), 27);
        EDGES.due("tendedBy(3)", x.tendedBy(3), -2);
        EDGES.due("tendedBy(4)", x.tendedBy(4), 1);
        EDGES.told("tending() with nobody awake", States::lean, SleepWords::tending, 0);
        // Nobody within reach.
        SleepWords far = Check.of(HEAD + "sleeper s plain in 0 frail 9;awake a in 9 hands 4 reach 8");
        EDGES.due("tending() of nobody within reach", far.tending(), 0);
    }

    private static void nobodyByIt() {
        int[] by = {0, 0, -2, -2, 1};
        for (int i = 0; i < 5; i++) {
            int s = i;
            EDGES.told("tendedBy(" + s + ")", States::busy, x -> x.tendedBy(s), by[i]);
        }
        EDGES.told("tendedBy(0) with nobody awake", States::lean, x -> x.tendedBy(0), -2);
    }

    private static void leftOnes() {
        EDGES.told("left()", States::busy, SleepWords::left, 12);
        EDGES.told("left(), all of one", States::lean, SleepWords::left, 1);
        SleepWords all = Check.of(HEAD + FIVE + ";sleeper f plain in 0 frail 6;sleeper g plain in 0 frail 7");
        EDGES.due("left(), all of seven", all.left(), 127);
        SleepWords none = Check.of(HEAD + FIVE + ";awake p in 0 hands 4 reach 0;awake q in 0 hands 1 reach 0");
        EDGES.due("left(), none", none.left(), 0);
    }

    private static void worth() {
        EDGES.told("worthOf(0)", States::busy, x -> x.worthOf(0), 22);
        EDGES.told("worthOf(1)", States::busy, x -> x.worthOf(1), 5);
        // One whom another can stand in for is worth nothing, and so is one who reaches nobody.
        SleepWords x = Check.of(HEAD + "sleeper a plain in 0 frail 9;awake p in 0 hands 1 reach 0;awake q in 0 hands 1 reach 0;awake r in 9 hands 4 reach 8");
        for (int a = 0; a < 3; a++) {
            EDGES.due("worthOf(" + a + "), not needed", x.worthOf(a), 0);
        }
        SleepWords only = Check.of(HEAD + "sleeper a old in 0 frail 20;awake p in 9 hands 1 reach 9");
        EDGES.due("worthOf(0), the only one", only.worthOf(0), 40);
    }

    private static void handMore() {
        EDGES.told("bestHand()", States::busy, SleepWords::bestHand, 0);
        // A fifth hand; the first of like ones; one more by 1 is more.
        for (int best = 0; best < 3; best++) {
            StringBuilder text = new StringBuilder(HEAD + FIVE);
            for (int a = 0; a < 3; a++) {
                text.append(";awake p").append((char) ('a' + a)).append(" in ").append(a == best ? 0 : 9).append(" hands 4 reach 0");
            }
            EDGES.due("a fifth hand of " + best, Check.of(text.toString()).bestHand(), best);
        }
        String two = "sleeper a plain in 0 frail 3;sleeper b plain in 0 frail 3;sleeper c plain in 9 frail 5;sleeper d plain in 9 frail #;"
            + "awake p in 0 hands 1 reach 0;awake q in 9 hands 1 reach 0";
        EDGES.due("less by the second", Check.of(HEAD + two.replace("#", "2")).bestHand(), 0);
        EDGES.due("like ones", Check.of(HEAD + two.replace("#", "3")).bestHand(), 0);
        EDGES.due("more by the second", Check.of(HEAD + two.replace("#", "4")).bestHand(), 1);
        for (int hands = 1; hands <= 4; hands++) {
            EDGES.due("the only one, of " + hands + " hands", Check.of(HEAD + FIVE + ";awake p in 0 hands " + hands + " reach 0").bestHand(), 0);
        }
        EDGES.due("like ones, three of one hand", Check.of(HEAD + FIVE + ";sleeper f plain in 0 frail 6;sleeper g plain in 0 frail 7;"
            + "awake p in 0 hands 1 reach 0;awake q in 0 hands 1 reach 0;awake r in 0 hands 1 reach 0").bestHand(), 0);
        // The hand goes to the first, who sets the second free.
        SleepWords x = Check.of(HEAD + "sleeper a plain in 0 frail 2;sleeper b plain in 5 frail 3;sleeper c plain in 9 frail 4;"
            + "awake p in 0 hands 1 reach 5;awake q in 9 hands 1 reach 4");
        EDGES.due("by setting free", x.bestHand(), 0);
    }

    private static void noHandMore() {
        EDGES.told("bestHand() with nobody awake", States::lean, SleepWords::bestHand, -2);
        SleepWords all = Check.of(HEAD + "sleeper a plain in 0 frail 2;awake p in 0 hands 1 reach 0");
        EDGES.due("bestHand(), all tended", all.bestHand(), -2);
        EDGES.due("trouble()", all.trouble(), 0);
        SleepWords far = Check.of(HEAD + "sleeper a plain in 0 frail 2;awake p in 9 hands 1 reach 8");
        EDGES.due("bestHand(), nobody within reach", far.bestHand(), -2);
        SleepWords nothing = Check.of(HEAD + "sleeper a plain in 0 frail 2;sleeper b hardy in 0 frail 1;awake p in 0 hands 1 reach 0");
        EDGES.due("bestHand(), one more who weighs nothing", nothing.bestHand(), -2);
    }
}
