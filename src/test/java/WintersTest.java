/** Promises 40 to 42: winters, wintersOf, above. */
public final class WintersTest {
    private static final Check CHECK = new Check("WintersTest");

    public static void main(String[] args) {
        byHand();
        fromNow();
        whenAwake();
        snowEdges();
        nothingChanges();
        wrongInputs();
        CHECK.end();
    }

    // Draws of SEED 0: 74, 5624, 28652; mod 100: 74, 24, 52; TENDING leaves cal (4) and ewe, for whom ram is tended.
    private static void byHand() {
        SleepWords x = Counties.full();
        CHECK.due("winters(0, 0)", x, x.winters(0, 0), 0, 0);
        CHECK.due("winters(0, 1)", x, x.winters(0, 1), 0, 0);
        CHECK.due("winters(0, 2)", x, x.winters(0, 2), 4, 0);
        CHECK.due("winters(0, 3)", x, x.winters(0, 3), 4, 0);
        CHECK.due("wintersOf(2, 0, 2)", x, x.wintersOf(2, 0, 2), 4, 0);
        CHECK.due("wintersOf(3, 0, 2), a sheep", x, x.wintersOf(3, 0, 2), 0, 0);
        CHECK.due("wintersOf(0, 0, 2), tended", x, x.wintersOf(0, 0, 2), 0, 0);
        CHECK.due("above(3, 0, 90)", x, x.above(3, 0, 90), 2, 0);
        CHECK.due("above(0, 0, 1)", x, x.above(0, 0, 1), 0, 0);
        // 65,536 draws itself for ever: 36 mod 100 snows each day.
        CHECK.due("winters(65536, 90)", x, x.winters(65536, 90), 360, 0);
        CHECK.due("above(11, 65536, 90)", x, x.above(11, 65536, 90), 3, 0);
        CHECK.due("above(12, 65536, 90)", x, x.above(12, 65536, 90), 4, 0);
        CHECK.due("above(360, 65536, 90)", x, x.above(360, 65536, 90), 0, 0);
        CHECK.due("above(359, 65536, 90)", x, x.above(359, 65536, 90), 90, 0);
        CHECK.due("above(9999, 65536, 0)", x, x.above(9999, 65536, 0), 0, 0);
    }

    private static void fromNow() {
        SleepWords x = Counties.full();
        x.tend(1, 2);
        CHECK.due("day()", x.day(), 31);
        x.tend(1, 2);
        // Whom they tend NOW is nothing to winters, HARM so far only to those that tell of it.
        CHECK.due("winters from now", x.winters(0, 2), 4);
        CHECK.due("wintersOf(2) from now", x.wintersOf(2, 0, 2), 4);
        CHECK.due("wintersOf(0) from now", x.wintersOf(0, 0, 2), 10);
        CHECK.due("wintersOf(0) of no days", x.wintersOf(0, 0, 0), 10);
        CHECK.due("above(31) from now", x.above(31, 0, 9), 2);
        CHECK.due("above(30) from now", x.above(30, 0, 9), 1);
        CHECK.due("above(30) of no days", x.above(30, 0, 0), 0);
    }

    private static void whenAwake() {
        SleepWords x = Counties.full();
        x.day();
        x.say(1);
        x.say(0);
        CHECK.due("say(2)", x.say(2), 1);
        CHECK.due("winters when awake", x, x.winters(65536, 90), 0, 0);
        CHECK.due("wintersOf when awake", x, x.wintersOf(2, 65536, 90), 4, 0);
        CHECK.due("above when awake", x, x.above(35, 65536, 90), 0, 0);
        CHECK.due("above already when awake", x, x.above(34, 65536, 90), 1, 0);
    }

    private static void snowEdges() {
        SleepWords never = Check.of("county lacks 1 snow 0;sleeper a plain in 0 frail 1");
        CHECK.due("snow 0", never.winters(65536, 90), 0);
        SleepWords always = Check.of("county lacks 1 snow 100;sleeper a plain in 0 frail 1");
        CHECK.due("snow 100", always.winters(5, 90), 90);
        SleepWords below = Check.of("county lacks 1 snow 36;sleeper a plain in 0 frail 1");
        CHECK.due("a draw that is snow itself", below.winters(65536, 90), 0);
        SleepWords above = Check.of("county lacks 1 snow 37;sleeper a plain in 0 frail 1");
        CHECK.due("a draw below snow", above.winters(65536, 90), 90);
    }

    private static void nothingChanges() {
        SleepWords x = Counties.full();
        x.seed(7);
        x.winters(3, 20);
        x.wintersOf(2, 3, 20);
        x.above(3, 3, 20);
        CHECK.due("SEED stays", x.size(10), 7);
        CHECK.due("the day stays", x.size(8), 0);
        CHECK.due("no harm is done", x.harmed(), 0);
        CHECK.due("nothing to undo", x.size(11), 0);
    }

    private static void wrongInputs() {
        SleepWords none = new SleepWords();
        CHECK.due("no county, winters", none, none.winters(-1, -1), -1, 1);
        CHECK.due("no county, wintersOf", none, none.wintersOf(0, -1, -1), -1, 1);
        CHECK.due("no county, above", none, none.above(-1, -1, -1), -1, 1);
        SleepWords x = Counties.full();
        int[][] wrong = {{-1, 0}, {65537, 0}, {0, -1}, {0, 91}};
        for (int[] w : wrong) {
            CHECK.due("winters(" + w[0] + ", " + w[1] + ")", x, x.winters(w[0], w[1]), -1, 2);
            CHECK.due("wintersOf(0, " + w[0] + ", " + w[1] + ")", x, x.wintersOf(0, w[0], w[1]), -1, 2);
            CHECK.due("above(0, " + w[0] + ", " + w[1] + ")", x, x.above(0, w[0], w[1]), -1, 2);
        }
        CHECK.due("above(-1, 0, 0)", x, x.above(-1, 0, 0), -1, 2);
        CHECK.due("above(10000, 0, 0)", x, x.above(10000, 0, 0), -1, 2);
        CHECK.due("wintersOf(5, -1, 0)", x, x.wintersOf(5, -1, 0), -1, 1);
        CHECK.due("wintersOf(-1, 0, 0)", x, x.wintersOf(-1, 0, 0), -1, 1);
    }
}
