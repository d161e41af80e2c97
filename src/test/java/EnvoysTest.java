/** Promises 37 to 39: envoys, rests, rest. */
public final class EnvoysTest {
    private static final Check CHECK = new Check("EnvoysTest");

    public static void main(String[] args) {
        byHand();
        allWorths();
        wrongInputs();
        CHECK.end();
    }

    private static void byHand() {
        SleepWords x = Counties.lean();
        CHECK.due("envoys(50, 0, 0)", x, x.envoys(50, 0, 0, false), 0, 0);
        CHECK.due("envoys(50, 0, 0) other", x, x.envoys(50, 0, 0, true), 0, 0);
        // 10 * 2 / 3 is 6, less 6 for two envoys, 2 for more of them.
        CHECK.due("envoys(10, 2, 1)", x, x.envoys(10, 2, 1, false), 2, 0);
        CHECK.due("envoys(10, 2, 1) other", x, x.envoys(10, 2, 1, true), 0, 0);
        CHECK.due("envoys(99, 6, 0)", x, x.envoys(99, 6, 0, false), 83, 0);
        CHECK.due("envoys(99, 6, 0) other", x, x.envoys(99, 6, 0, true), 0, 0);
        CHECK.due("envoys(0, 6, 6)", x, x.envoys(0, 6, 6, false), -18, 0);
        CHECK.due("envoys(5, 1, 1), no more of either", x, x.envoys(5, 1, 1, true), -1, 0);
        // For nothing nobody sends: one envoy costs more than the 2 that it brings.
        CHECK.due("rests(0)", x, x.rests(0), 1, 0);
        CHECK.due("rest(0)", x, x.rest(0), 0, 0);
        CHECK.due("rest(99)", x, x.rest(99), 66, 0);
    }

    private static int has(int worth, int own, int others) {
        int share = 0;
        while (own + others > 0 && (share + 1) * (own + others) <= worth * own) {
            share++;
        }
        return share - own - own - own + (own > others ? 2 : 0);
    }

    private static boolean best(int worth, int own, int others) {
        for (int instead = 0; instead < 7; instead++) {
            if (has(worth, instead, others) > has(worth, own, others)) {
                return false;
            }
        }
        return true;
    }

    private static void allWorths() {
        for (int worth = 0; worth <= 99; worth++) {
            SleepWords x = Counties.lean();
            int rests = 0;
            int first = -2;
            for (int one = 0; one < 7; one++) {
                for (int other = 0; other < 7; other++) {
                    String call = "envoys(" + worth + ", " + one + ", " + other + ")";
                    CHECK.due(call, x.envoys(worth, one, other, false), has(worth, one, other));
                    CHECK.due(call + " other", x.envoys(worth, one, other, true), has(worth, other, one));
                    if (best(worth, one, other) && best(worth, other, one)) {
                        rests++;
                        first = first == -2 ? 10 * one + other : first;
                    }
                }
            }
            CHECK.due("rests(" + worth + ")", x, x.rests(worth), rests, 0);
            CHECK.due("rest(" + worth + ")", x, x.rest(worth), first, 0);
        }
    }

    private static void wrongInputs() {
        SleepWords none = new SleepWords();
        CHECK.due("no county, envoys", none, none.envoys(-1, 0, 0, false), -100, 1);
        CHECK.due("no county, rests", none, none.rests(-1), -1, 1);
        CHECK.due("no county, rest", none, none.rest(-1), -1, 1);
        SleepWords x = Counties.lean();
        int[][] wrong = {{-1, 0, 0}, {100, 0, 0}, {1, -1, 0}, {1, 7, 0}, {1, 0, -1}, {1, 0, 7}};
        for (int[] w : wrong) {
            CHECK.due("envoys(" + w[0] + ", " + w[1] + ", " + w[2] + ")", x, x.envoys(w[0], w[1], w[2], false), -100, 2);
            CHECK.due("envoys(" + w[0] + ", " + w[1] + ", " + w[2] + ") other", x, x.envoys(w[0], w[1], w[2], true), -100, 2);
        }
        CHECK.due("rests(-1)", x, x.rests(-1), -1, 2);
        CHECK.due("rests(100)", x, x.rests(100), -1, 2);
        CHECK.due("rest(-1)", x, x.rest(-1), -1, 2);
        CHECK.due("rest(100)", x, x.rest(100), -1, 2);
    }
}
