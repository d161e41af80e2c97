import java.util.NoSuchElementException;
import java.util.Random;

/** Any calls with any arguments in any state: nothing is thrown but by led, and little is made. */
public final class EndureTest {
    private static final Check CHECK = new Check("EndureTest");
    private static final int[] EDGES = {Integer.MIN_VALUE, -101, -2, -1, 0, 1, 2, 3, 4, 5, 6, 7, 8, 13, 14, 31, 32, 33, 63, 64,
        89, 90, 91, 99, 100, 127, 128, 299, 300, 301, 899, 900, 901, 9999, 10000, 65535, 65536, 65537, 99999, 100000,
        999999, 1000000, Integer.MAX_VALUE};
    private static final String[] TOKENS = {"county", "lacks", "7", "snow", "50", "sleeper", "plain", "old", "hardy", "sheep", "in",
        "frail", "awake", "hands", "reach", "word", "odds", "minutes", "before", "order", "does", "rank", "seen", "idle", ";", ";",
        "a", "b", "c", "0", "1", "2", "3", "21", "100", "999", "1000", "abcdefghi", "A", "-", "\u00ff"};

    private final Random random;
    private final SleepWords x = new SleepWords();
    private int calls;

    private EndureTest(int seed) {
        random = new Random(seed);
    }

    public static void main(String[] args) {
        for (int seed = 0; seed < 4000; seed++) {
            EndureTest one = new EndureTest(seed);
            try {
                one.run(seed);
                CHECK.due("run " + seed, 1, 1);
            } catch (RuntimeException e) {
                CHECK.fail("run " + seed + ", call " + one.calls + " threw " + e);
            }
        }
        littleIsMade();
        CHECK.end();
    }

    private void run(int seed) {
        if (seed % 4 != 0) {
            text(new Model(random).text.toString());
        }
        while (calls < 480) {
            if (random.nextInt(60) == 0) {
                text(random.nextBoolean() ? mangled() : babble());
            } else {
                call(random.nextInt(52));
            }
        }
    }

    private void text(String text) {
        String cut = text.length() > 900 ? text.substring(0, 900) : text;
        Check.feed(x, cut);
        calls += cut.length() / 20 + 2;
        x.county(Math.min(cut.length(), x.size(13)));
    }

    private String mangled() {
        StringBuilder text = new StringBuilder(new Model(random).text);
        for (int i = random.nextInt(4); i >= 0; i--) {
            text.setCharAt(random.nextInt(text.length()), (char) (random.nextBoolean() ? 32 + random.nextInt(95) : random.nextInt(256)));
        }
        return text.toString();
    }

    private String babble() {
        StringBuilder text = new StringBuilder(random.nextBoolean() ? "county lacks 7 snow 50;sleeper a plain in 0 frail 1;" : "");
        for (int i = random.nextInt(40); i > 0; i--) {
            text.append(TOKENS[random.nextInt(TOKENS.length)]).append(random.nextInt(5) == 0 ? "" : " ");
        }
        return text.toString();
    }

    private int n() {
        return random.nextInt(3) == 0 ? EDGES[random.nextInt(EDGES.length)] : random.nextInt(8);
    }

    private void call(int which) {
        calls++;
        boolean yes = random.nextBoolean();
        switch (which) {
            case 0 -> x.feed(n(), n(), n(), n(), n());
            case 1 -> x.county(n());
            case 2 -> x.fault();
            case 3 -> x.where();
            case 4 -> x.counts(n());
            case 5 -> x.really(n());
            case 6 -> x.sum(n(), n());
            case 7 -> x.sleeper(n(), n());
            case 8 -> x.awake(n(), n());
            case 9 -> x.harmOf(n());
            case 10 -> x.harm();
            case 11 -> x.harmed();
            case 12 -> x.worst();
            case 13 -> x.tending();
            case 14 -> x.tendedBy(n());
            case 15 -> x.left();
            case 16 -> x.worthOf(n());
            case 17 -> x.bestHand();
            case 18 -> x.word(n(), n());
            case 19 -> x.chance(n(), yes);
            case 20 -> x.mean(yes);
            case 21 -> x.searchAt(n());
            case 22 -> x.meanFirst(n(), yes);
            case 23 -> x.within(n(), yes);
            case 24 -> x.withinWords(n());
            case 25 -> x.next();
            case 26 -> x.rows();
            case 27 -> x.fits();
            case 28 -> x.could();
            case 29 -> x.surely();
            case 30 -> x.ask();
            case 31 -> x.askLeaves();
            case 32 -> x.judge();
            case 33 -> x.together(n());
            case 34 -> x.clash();
            case 35 -> x.envoys(n(), n(), n(), yes);
            case 36 -> x.rests(n());
            case 37 -> x.rest(n());
            case 38 -> x.winters(n(), n());
            case 39 -> x.wintersOf(n(), n(), n());
            case 40 -> x.above(n(), n(), n());
            case 41 -> x.tend(n(), n());
            case 42 -> x.day();
            case 43 -> x.say(n());
            case 44 -> x.seed(n());
            case 45 -> x.undo();
            case 46 -> x.image();
            case 47 -> x.back(n());
            case 48 -> led();
            case 49 -> x.size(n());
            case 50 -> x.trouble();
            default -> x.say(random.nextInt(7));
        }
    }

    private void led() {
        try {
            x.led(n());
        } catch (NoSuchElementException e) {
            // as the document says
        }
    }

    /** A run's calls live in one room: an object is small and its calls make nothing. */
    private static void littleIsMade() {
        var threads = (com.sun.management.ThreadMXBean) java.lang.management.ManagementFactory.getThreadMXBean();
        long id = Thread.currentThread().getId();
        long start = threads.getThreadAllocatedBytes(id);
        SleepWords x = new SleepWords();
        long made = threads.getThreadAllocatedBytes(id);
        CHECK.due("an object takes less than 64 KiB", made - start < 65536, true);
        Check.tell(x, Counties.FULL);
        long ahead = threads.getThreadAllocatedBytes(id);
        for (int i = 0; i < 100; i++) {
            x.tending();
            x.mean(true);
            x.within(100, false);
            x.ask();
            x.winters(i, 90);
        }
        long behind = threads.getThreadAllocatedBytes(id);
        CHECK.due("500 calls make less than 16 KiB", behind - ahead < 16384, true);
    }
}
