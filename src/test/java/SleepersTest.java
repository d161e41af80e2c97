/** Promises 9 to 19: sleepers, the awake, harm, TENDING. */
public final class SleepersTest {
    private static final Check CHECK = new Check("SleepersTest");
    private static final String HEAD = Counties.HEAD;

    public static void main(String[] args) {
        asTold();
        asTendedNow();
        harmOfTheDay();
        harmSoFar();
        tendingOfFull();
        tendingOfLikeOnes();
        tendingOfKinds();
        handsThatHelp();
        nobodyAwake();
        wrongInputs();
        CHECK.end();
    }

    private static void asTold() {
        SleepWords x = Counties.full();
        int[][] sleepers = {{0, 1, 10, 0, -2, 1}, {1, 2, 6, 0, -2, 1}, {2, 5, 9, 0, -2, 2}, {3, 3, 4, 0, -2, 1}, {3, 8, 5, 0, -2, 2}};
        for (int s = 0; s < sleepers.length; s++) {
            for (int what = 0; what < 6; what++) {
                CHECK.due("sleeper(" + s + ", " + what + ")", x, x.sleeper(s, what), sleepers[s][what], 0);
            }
        }
        int[][] awake = {{2, 2, 1, 0, 2}, {6, 1, 2, 0, 1}};
        for (int a = 0; a < awake.length; a++) {
            for (int what = 0; what < 5; what++) {
                CHECK.due("awake(" + a + ", " + what + ")", x, x.awake(a, what), awake[a][what], 0);
            }
        }
        SleepWords y = Check.of(HEAD + "sleeper s plain in 4 frail 1;awake a in 0 hands 1 reach 4;awake b in 9 hands 1 reach 4;awake c in 9 hands 1 reach 5");
        CHECK.due("reach from both sides", y.sleeper(0, 5), 5);
    }

    private static void asTendedNow() {
        SleepWords x = Counties.full();
        x.tend(0, 3);
        x.tend(0, 0);
        x.tend(1, 4);
        CHECK.due("sleeper(3, 4)", x.sleeper(3, 4), 0);
        CHECK.due("sleeper(4, 4)", x.sleeper(4, 4), 1);
        CHECK.due("sleeper(1, 4)", x.sleeper(1, 4), -2);
        CHECK.due("awake(0, 3)", x.awake(0, 3), 9);
        CHECK.due("awake(0, 4)", x.awake(0, 4), 0);
        CHECK.due("awake(1, 3)", x.awake(1, 3), 16);
        CHECK.due("awake(1, 4)", x.awake(1, 4), 0);
        CHECK.due("hands told", x.awake(1, 1), 1);
        x.day();
        CHECK.due("sleeper(3, 4) behind a day", x.sleeper(3, 4), -2);
        CHECK.due("awake(0, 4) behind a day", x.awake(0, 4), 2);
    }

    private static void harmOfTheDay() {
        SleepWords x = Counties.full();
        int[] harm = {10, 12, 4, 4, 5};
        for (int s = 0; s < 5; s++) {
            CHECK.due("harmOf(" + s + ")", x, x.harmOf(s), harm[s], 0);
        }
        CHECK.due("harm()", x, x.harm(), 35, 0);
        x.tend(0, 0);
        CHECK.due("harmOf of one tended", x.harmOf(0), 0);
        CHECK.due("harm() then", x.harm(), 25);
        x.tend(1, 4);
        CHECK.due("harmOf of a sheep tended", x.harmOf(4), 0);
        CHECK.due("harmOf of another sheep", x.harmOf(3), 0);
        CHECK.due("harm() without sheep", x.harm(), 16);
        CHECK.due("DAY does just that", x.day(), 16);
        CHECK.due("sheep behind the day", x.harmOf(3), 4);
        CHECK.due("harm() behind the day", x.harm(), 35);
        x.seed(28652);
        wake(x);
        CHECK.due("harmOf when awake", x, x.harmOf(0), 0, 0);
        CHECK.due("harm() when awake", x, x.harm(), 0, 0);
    }

    /** Says all words in turn until they wake. */
    private static void wake(SleepWords x) {
        for (int w : new int[] {1, 0, 2, 3}) {
            if (x.size(9) == 0) {
                x.say(w);
            }
        }
        CHECK.due("awake at last", x.size(9), 1);
    }

    private static void harmSoFar() {
        SleepWords x = Counties.full();
        CHECK.due("harmed()", x, x.harmed(), 0, 0);
        CHECK.due("worst()", x, x.worst(), -2, 0);
        x.tend(0, 1);
        x.day();
        CHECK.due("harmed() 1", x.harmed(), 23);
        CHECK.due("worst() 1", x.worst(), 0);
        CHECK.due("sleeper(1, 3)", x.sleeper(1, 3), 0);
        x.day();
        x.day();
        CHECK.due("harmed() 3", x.harmed(), 93);
        CHECK.due("sleeper(0, 3)", x.sleeper(0, 3), 30);
        CHECK.due("sleeper(1, 3)", x.sleeper(1, 3), 24);
        x.tend(0, 0);
        x.day();
        x.tend(0, 0);
        x.day();
        CHECK.due("worst() passes on", x.worst(), 1);
        SleepWords like = Check.of(HEAD + "sleeper a hardy in 0 frail 1;sleeper b plain in 0 frail 4;sleeper c old in 0 frail 2");
        like.day();
        CHECK.due("worst() of like ones the first", like.worst(), 1);
        CHECK.due("no harm to a hardy one of 1", like.sleeper(0, 3), 0);
        CHECK.due("harmed()", like.harmed(), 8);
    }

    private static void tendingOfFull() {
        SleepWords x = Counties.full();
        x.tend(1, 2);
        x.tend(0, 3);
        CHECK.due("tending() whatever is tended", x, x.tending(), 27, 0);
        int[] by = {0, 0, -2, -2, 1};
        for (int s = 0; s < 5; s++) {
            CHECK.due("tendedBy(" + s + ")", x, x.tendedBy(s), by[s], 0);
        }
        CHECK.due("left()", x, x.left(), 12, 0);
        CHECK.due("worthOf(0)", x, x.worthOf(0), 22, 0);
        CHECK.due("worthOf(1)", x, x.worthOf(1), 5, 0);
        CHECK.due("bestHand()", x, x.bestHand(), 0, 0);
    }

    private static void tendingOfLikeOnes() {
        // Each sleeper has the first awake one that it can have, nobody behind all.
        SleepWords x = Check.of(HEAD + "sleeper a plain in 5 frail 3;sleeper b plain in 5 frail 3;sleeper c plain in 5 frail 3;"
            + "awake p in 5 hands 1 reach 0;awake q in 5 hands 1 reach 0");
        CHECK.due("like, tending()", x.tending(), 6);
        CHECK.due("like, tendedBy(0)", x.tendedBy(0), 0);
        CHECK.due("like, tendedBy(1)", x.tendedBy(1), 1);
        CHECK.due("like, tendedBy(2)", x.tendedBy(2), -2);
        CHECK.due("like, left()", x.left(), 4);
        CHECK.due("like, worthOf(0)", x.worthOf(0), 3);
        CHECK.due("like, bestHand()", x.bestHand(), 0);
        // The first awake one is kept for whom only he reaches.
        SleepWords y = Check.of(HEAD + "sleeper a plain in 5 frail 3;sleeper b plain in 0 frail 2;"
            + "awake p in 4 hands 1 reach 4;awake q in 6 hands 1 reach 1");
        CHECK.due("kept, tending()", y.tending(), 5);
        CHECK.due("kept, tendedBy(0)", y.tendedBy(0), 1);
        CHECK.due("kept, tendedBy(1)", y.tendedBy(1), 0);
        CHECK.due("kept, worthOf(1)", y.worthOf(1), 2);
        CHECK.due("kept, worthOf(0)", y.worthOf(0), 2);
        CHECK.due("kept, bestHand() none", y, y.bestHand(), -2, 0);
        // One who weighs nothing is tended still, where a hand is free.
        SleepWords z = Check.of(HEAD + "sleeper a hardy in 5 frail 1;sleeper b plain in 5 frail 1;awake p in 5 hands 2 reach 0");
        CHECK.due("nothing, tending()", z.tending(), 1);
        CHECK.due("nothing, tendedBy(0)", z.tendedBy(0), 0);
        CHECK.due("nothing, left()", z.left(), 0);
        SleepWords u = Check.of(HEAD + "sleeper a hardy in 5 frail 1;sleeper b plain in 5 frail 1;awake p in 5 hands 1 reach 0");
        CHECK.due("nothing first, tendedBy(0)", u.tendedBy(0), -2);
        CHECK.due("nothing first, left()", u.left(), 1);
        CHECK.due("nothing first, bestHand()", u.bestHand(), -2);
    }

    private static void tendingOfKinds() {
        // 7 plain is more than a hardy 13 (6); 4 old is more than it; sheep count though one would do.
        SleepWords x = Check.of(HEAD + "sleeper a hardy in 5 frail 13;sleeper b plain in 5 frail 7;sleeper c old in 5 frail 4;"
            + "sleeper d sheep in 5 frail 9;sleeper e sheep in 5 frail 9;awake p in 5 hands 3 reach 0");
        CHECK.due("kinds, tending()", x.tending(), 26);
        CHECK.due("kinds, left()", x.left(), 3);
        CHECK.due("kinds, bestHand()", x.bestHand(), 0);
        CHECK.due("kinds, worthOf(0)", x.worthOf(0), 26);
    }

    private static void handsThatHelp() {
        SleepWords x = Check.of(HEAD + "sleeper a plain in 0 frail 3;sleeper b plain in 0 frail 3;sleeper c plain in 9 frail 5;sleeper d plain in 9 frail 4;"
            + "awake p in 0 hands 1 reach 0;awake q in 9 hands 1 reach 0;awake r in 5 hands 4 reach 0");
        CHECK.due("most more", x.bestHand(), 1);
        CHECK.due("worth of one who reaches nobody", x.worthOf(2), 0);
        SleepWords y = Check.of(HEAD + "sleeper a plain in 0 frail 4;sleeper b plain in 0 frail 4;sleeper c plain in 9 frail 5;sleeper d plain in 9 frail 4;"
            + "awake p in 0 hands 1 reach 0;awake q in 9 hands 1 reach 0");
        CHECK.due("most more, the first", y.bestHand(), 0);
        SleepWords z = Check.of(HEAD + "sleeper a plain in 0 frail 1;sleeper b plain in 0 frail 2;sleeper c plain in 0 frail 3;sleeper d plain in 0 frail 4;"
            + "sleeper e plain in 0 frail 5;awake p in 9 hands 4 reach 0;awake q in 9 hands 4 reach 0;awake r in 0 hands 4 reach 0");
        CHECK.due("a fifth hand", z.bestHand(), 2);
        CHECK.due("four hands", z.tending(), 14);
        CHECK.due("four hands' worth", z.worthOf(2), 14);
    }

    private static void nobodyAwake() {
        SleepWords x = Counties.lean();
        CHECK.due("lean tending()", x, x.tending(), 0, 0);
        CHECK.due("lean tendedBy(0)", x, x.tendedBy(0), -2, 0);
        CHECK.due("lean left()", x, x.left(), 1, 0);
        CHECK.due("lean bestHand()", x, x.bestHand(), -2, 0);
        CHECK.due("lean worthOf(0)", x, x.worthOf(0), -1, 1);
        CHECK.due("lean sleeper(0, 5)", x, x.sleeper(0, 5), 0, 0);
    }

    private static void wrongInputs() {
        SleepWords none = new SleepWords();
        CHECK.due("no county, sleeper", none, none.sleeper(0, 0), -1, 1);
        CHECK.due("no county, awake", none, none.awake(0, 0), -1, 1);
        CHECK.due("no county, harmOf", none, none.harmOf(0), -1, 1);
        CHECK.due("no county, harm", none, none.harm(), -1, 1);
        CHECK.due("no county, harmed", none, none.harmed(), -1, 1);
        CHECK.due("no county, worst", none, none.worst(), -1, 1);
        CHECK.due("no county, tending", none, none.tending(), -1, 1);
        CHECK.due("no county, tendedBy", none, none.tendedBy(0), -1, 1);
        CHECK.due("no county, left", none, none.left(), -1, 1);
        CHECK.due("no county, worthOf", none, none.worthOf(0), -1, 1);
        CHECK.due("no county, bestHand", none, none.bestHand(), -1, 1);
        SleepWords x = Counties.full();
        for (int s : new int[] {-1, 5, 7, Integer.MAX_VALUE, Integer.MIN_VALUE}) {
            CHECK.due("sleeper(" + s + ", 0)", x, x.sleeper(s, 0), -1, 1);
            CHECK.due("harmOf(" + s + ")", x, x.harmOf(s), -1, 1);
            CHECK.due("tendedBy(" + s + ")", x, x.tendedBy(s), -1, 1);
        }
        for (int a : new int[] {-1, 2, 3, Integer.MAX_VALUE, Integer.MIN_VALUE}) {
            CHECK.due("awake(" + a + ", 0)", x, x.awake(a, 0), -1, 1);
            CHECK.due("worthOf(" + a + ")", x, x.worthOf(a), -1, 1);
        }
        CHECK.due("sleeper(0, 6)", x, x.sleeper(0, 6), -1, 1);
        CHECK.due("sleeper(0, -1)", x, x.sleeper(0, -1), -1, 1);
        CHECK.due("awake(0, 5)", x, x.awake(0, 5), -1, 1);
        CHECK.due("awake(0, -1)", x, x.awake(0, -1), -1, 1);
    }
}
