/** Promises 43 to 52: tend, day, say, seed, undo, image, back, led, size, trouble. */
public final class ActsTest {
    private static final Check CHECK = new Check("ActsTest");

    public static void main(String[] args) {
        tending();
        days();
        saying();
        seeds();
        undoing();
        sixteenAreKept();
        images();
        leading();
        sizes();
        troubles();
        noCounty();
        CHECK.end();
    }

    private static void tending() {
        SleepWords x = Counties.full();
        CHECK.due("tend(0, 0)", x, x.tend(0, 0), true, 0);
        CHECK.due("tend(0, 0) again", x, x.tend(0, 0), false, 5);
        CHECK.due("tend(1, 0), too far and tended", x, x.tend(1, 0), false, 5);
        CHECK.due("tend(0, 2), too far", x, x.tend(0, 2), false, 5);
        CHECK.due("tend(0, 1)", x, x.tend(0, 1), true, 0);
        CHECK.due("tend(0, 3), no hand", x, x.tend(0, 3), false, 3);
        CHECK.due("tend(0, 1), tended and no hand", x, x.tend(0, 1), false, 5);
        CHECK.due("tend(0, 4), too far and no hand", x, x.tend(0, 4), false, 5);
        CHECK.due("acts", x.size(11), 2);
        int[][] wrong = {{-1, 0}, {2, 0}, {0, -1}, {0, 5}, {3, 7}};
        for (int[] w : wrong) {
            CHECK.due("tend(" + w[0] + ", " + w[1] + ")", x, x.tend(w[0], w[1]), false, 1);
        }
        wake(x);
        CHECK.due("tend when awake", x, x.tend(1, 4), false, 5);
        CHECK.due("who is tended stays when awake", x.sleeper(0, 4), 0);
    }

    // Draws of SEED 0: 74, 5624, 28652: cow wakes them.
    private static void wake(SleepWords x) {
        x.seed(0);
        CHECK.due("say(1)", x.say(1), 0);
        CHECK.due("say(0)", x.say(0), 0);
        CHECK.due("say(2)", x.say(2), 1);
    }

    private static void days() {
        SleepWords x = Counties.full();
        x.tend(0, 0);
        CHECK.due("day()", x, x.day(), 25, 0);
        CHECK.due("size(8)", x.size(8), 1);
        CHECK.due("nobody is tended then", x.sleeper(0, 4), -2);
        CHECK.due("day() again", x, x.day(), 35, 0);
        CHECK.due("harmed()", x.harmed(), 60);
        CHECK.due("SEED stays", x.size(10), 0);
        wake(x);
        CHECK.due("day() when awake", x, x.day(), -1, 5);
        CHECK.due("the day stays", x.size(8), 2);
        SleepWords y = Counties.lean();
        CHECK.due("a day without harm", y, y.day(), 0, 0);
    }

    private static void saying() {
        SleepWords x = Counties.full();
        CHECK.due("say(2), ant isn't said", x, x.say(2), -1, 5);
        CHECK.due("say(4)", x, x.say(4), -1, 1);
        CHECK.due("say(-1)", x, x.say(-1), -1, 1);
        CHECK.due("nothing was drawn", x.size(10), 0);
        // 74 mod 110 is 74, not below 20.
        CHECK.due("say(1)", x, x.say(1), 0, 0);
        CHECK.due("SEED 1", x.size(10), 74);
        CHECK.due("say(1) again", x, x.say(1), -1, 5);
        // 5624 mod 90 is 44, not below 30.
        CHECK.due("say(0)", x, x.say(0), 0, 0);
        CHECK.due("SEED 2", x.size(10), 5624);
        // 28652 mod 60 is 32, below 50.
        CHECK.due("say(2)", x, x.say(2), 1, 0);
        CHECK.due("SEED 3", x.size(10), 28652);
        CHECK.due("awake", x.size(9), 1);
        CHECK.due("the waking word was said", x.word(2, 2), 1);
        CHECK.due("say(3) when awake", x, x.say(3), -1, 5);
        CHECK.due("acts", x.size(11), 3);
        // A draw of the odds themselves is not below them: SEED s draws 75 s + 74.
        SleepWords y = Check.of(Counties.HEAD + "sleeper s plain in 0 frail 1;word a odds 74 minutes 1;word b odds 26 minutes 1");
        CHECK.due("a draw of its odds", y.say(0), 0);
        SleepWords z = Check.of(Counties.HEAD + "sleeper s plain in 0 frail 1;word a odds 75 minutes 1;word b odds 25 minutes 1");
        CHECK.due("a draw below its odds", z.say(0), 1);
    }

    private static void seeds() {
        SleepWords x = Counties.full();
        CHECK.due("seed(65536)", x, x.seed(65536), true, 0);
        CHECK.due("SEED", x.size(10), 65536);
        CHECK.due("seed(65537)", x, x.seed(65537), false, 2);
        CHECK.due("seed(-1)", x, x.seed(-1), false, 2);
        CHECK.due("SEED stays", x.size(10), 65536);
        CHECK.due("no ACT", x.size(11), 0);
        CHECK.due("undo()", x, x.undo(), false, 6);
        // 65536 mod 110 is 86; it draws itself.
        CHECK.due("say(0)", x.say(0), 0);
        CHECK.due("SEED draws itself", x.size(10), 65536);
        CHECK.due("seed(0)", x, x.seed(0), true, 0);
        wake(Counties.full());
    }

    private static void undoing() {
        SleepWords x = Counties.full();
        CHECK.due("undo() of nothing", x, x.undo(), false, 6);
        x.tend(0, 0);
        x.seed(5);
        x.day();
        x.seed(0);
        x.say(1);
        x.say(0);
        x.say(2);
        CHECK.due("acts", x.size(11), 5);
        CHECK.due("refused acts are not kept", x.day(), -1);
        CHECK.due("acts still", x.size(11), 5);
        CHECK.due("undo() waking", x, x.undo(), true, 0);
        CHECK.due("asleep again", x.size(9), 0);
        CHECK.due("unsaid again", x.word(2, 2), 0);
        CHECK.due("SEED again", x.size(10), 5624);
        CHECK.due("say(2) again", x.say(2), 1);
        x.undo();
        x.undo();
        x.undo();
        CHECK.due("SEED ahead of the first say", x.size(10), 0);
        CHECK.due("nothing said", x.next(), 3);
        CHECK.due("harm stays", x.harmed(), 25);
        x.seed(9);
        CHECK.due("undo() the day", x, x.undo(), true, 0);
        CHECK.due("no harm", x.harmed(), 0);
        CHECK.due("day 0", x.size(8), 0);
        CHECK.due("tended again", x.sleeper(0, 4), 0);
        CHECK.due("SEED ahead of the day", x.size(10), 5);
        CHECK.due("undo() the tending", x, x.undo(), true, 0);
        CHECK.due("not tended", x.sleeper(0, 4), -2);
        CHECK.due("SEED ahead of the tending", x.size(10), 0);
        CHECK.due("undo() all undone", x, x.undo(), false, 6);
    }

    private static void sixteenAreKept() {
        SleepWords x = Counties.full();
        for (int d = 1; d <= 20; d++) {
            x.seed(d);
            x.day();
            CHECK.due("acts behind day " + d, x.size(11), Math.min(d, 16));
        }
        for (int d = 19; d >= 4; d--) {
            CHECK.due("undo() to day " + d, x.undo(), true);
            CHECK.due("day", x.size(8), d);
            CHECK.due("SEED", x.size(10), d + 1);
            CHECK.due("harmed", x.harmed(), 35 * d);
        }
        CHECK.due("undo() the seventeenth", x, x.undo(), false, 6);
        CHECK.due("day 4", x.size(8), 4);
        x.day();
        CHECK.due("one more", x.size(11), 1);
        CHECK.due("undo() it", x.undo(), true);
        CHECK.due("day 4 again", x.size(8), 4);
    }

    private static void images() {
        SleepWords x = Counties.full();
        CHECK.due("back(0) of none", x, x.back(0), false, 1);
        x.tend(0, 0);
        x.seed(5);
        CHECK.due("image()", x, x.image(), 0, 0);
        CHECK.due("an image is no ACT", x.size(11), 1);
        x.day();
        x.seed(0);
        CHECK.due("image() 1", x, x.image(), 1, 0);
        x.say(1);
        x.say(0);
        x.say(2);
        CHECK.due("image() 2", x, x.image(), 2, 0);
        CHECK.due("image() 3", x, x.image(), -1, 3);
        CHECK.due("images", x.size(12), 3);
        CHECK.due("back(3)", x, x.back(3), false, 1);
        CHECK.due("back(-1)", x, x.back(-1), false, 1);
        CHECK.due("refused: still to undo", x.size(11), 5);
        CHECK.due("back(0)", x, x.back(0), true, 0);
        CHECK.due("day", x.size(8), 0);
        CHECK.due("SEED", x.size(10), 5);
        CHECK.due("asleep", x.size(9), 0);
        CHECK.due("tended", x.sleeper(0, 4), 0);
        CHECK.due("harmed", x.harmed(), 0);
        CHECK.due("nothing said", x.next(), 3);
        CHECK.due("nothing to undo", x.size(11), 0);
        CHECK.due("undo()", x, x.undo(), false, 6);
        CHECK.due("images stay", x.size(12), 3);
        x.day();
        CHECK.due("undo() back to the image", x, x.undo(), true, 0);
        CHECK.due("back(2)", x, x.back(2), true, 0);
        CHECK.due("awake", x.size(9), 1);
        CHECK.due("harmed", x.harmed(), 25);
        CHECK.due("back(1)", x, x.back(1), true, 0);
        CHECK.due("day 1", x.size(8), 1);
        CHECK.due("SEED 0", x.size(10), 0);
        CHECK.due("say(1)", x.say(1), 0);
        CHECK.due("back(1) again: an image isn't changed", x.back(1), true);
        CHECK.due("nothing said", x.next(), 3);
        SleepWords y = Counties.full();
        y.image();
        y.day();
        y.undo();
        CHECK.due("undo() leaves images", y.size(12), 1);
    }

    private static void leading() {
        SleepWords x = Counties.full();
        CHECK.dueNoSuchElement("led(0)", x, 0);
        x.say(1);
        x.say(0);
        CHECK.due("led(0) by numbers", x.led(0), 0);
        CHECK.due("led(1) by numbers", x.led(1), 1);
        CHECK.dueNoSuchElement("led(2)", x, 2);
        CHECK.dueNoSuchElement("led(-1)", x, -1);
        CHECK.dueNoSuchElement("led(MAX)", x, Integer.MAX_VALUE);
        x.say(2);
        CHECK.due("led(2)", x.led(2), 2);
        x.undo();
        x.undo();
        CHECK.due("led(0) undone", x.led(0), 1);
        CHECK.dueNoSuchElement("led(1) undone", x, 1);
        CHECK.due("led() leaves trouble", x, x.day(), 35, 0);
        x.say(9);
        CHECK.dueNoSuchElement("led(1)", x, 1);
        CHECK.due("led() leaves trouble 1", x.trouble(), 1);
    }

    private static void sizes() {
        SleepWords x = Counties.full();
        int[] sizes = {7, 50, 5, 2, 4, 2, 4, 2, 0, 0, 0, 0, 0, 0};
        for (int what = 0; what < sizes.length; what++) {
            CHECK.due("size(" + what + ")", x.size(what), sizes[what]);
        }
        x.feed(0, 0, 0, 0, 0);
        CHECK.due("size(13)", x.size(13), 20);
        for (int what : new int[] {-1, 14, Integer.MAX_VALUE, Integer.MIN_VALUE}) {
            CHECK.due("size(" + what + ")", x.size(what), -1);
        }
        CHECK.due("size() is never refused", x.trouble(), 0);
    }

    private static void troubles() {
        SleepWords x = Counties.full();
        CHECK.due("trouble of county", x.trouble(), 0);
        x.harmOf(9);
        CHECK.due("trouble 1", x.trouble(), 1);
        CHECK.due("trouble stays", x.trouble(), 1);
        x.fault();
        x.where();
        x.size(77);
        x.feed(1, 2, 3, 4, 5);
        CHECK.due("trouble stays behind calls that have none", x.trouble(), 1);
        x.worst();
        CHECK.due("-2 is no trouble", x.trouble(), 0);
    }

    private static void noCounty() {
        SleepWords x = new SleepWords();
        CHECK.due("tend", x, x.tend(0, 0), false, 1);
        CHECK.due("day", x, x.day(), -1, 1);
        CHECK.due("say", x, x.say(0), -1, 1);
        CHECK.due("seed", x, x.seed(-1), false, 1);
        CHECK.due("undo", x, x.undo(), false, 6);
        CHECK.due("image", x, x.image(), -1, 1);
        CHECK.due("back", x, x.back(0), false, 1);
        CHECK.due("size(10)", x.size(10), 0);
        CHECK.dueNoSuchElement("led(0)", x, 0);
    }
}
