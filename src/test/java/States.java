import java.util.List;
import java.util.function.Supplier;

/** States in which calls are tried: each call makes a new object, always the same one. All but empty() have a text on THE TAPE. */
final class States {
    /** Every sort of line as often as there is room for it: 7 sleepers, 3 awake, 7 words, 8 before, 6 orders, 5 seen. */
    static final String BRIM = "county lacks 9 snow 100;"
        + "sleeper sa plain in 0 frail 20;sleeper sb old in 1 frail 20;sleeper sc hardy in 2 frail 19;sleeper sd sheep in 3 frail 18;"
        + "sleeper se sheep in 4 frail 17;sleeper sf old in 9 frail 1;sleeper sg plain in 9 frail 1;"
        + "awake aa in 0 hands 1 reach 3;awake ab in 9 hands 4 reach 0;awake ac in 5 hands 2 reach 9;"
        + "word wa odds 99 minutes 30;word wb odds 1 minutes 1;word wc odds 7 minutes 3;word wd odds 50 minutes 30;"
        + "word we odds 99 minutes 1;word wf odds 1 minutes 30;word wg odds 20 minutes 20;"
        + "before wa wb;before wb wc;before wa wc;before wd we;before we wf;before wd wf;before wa wf;before wb wf;"
        + "order x does p rank 9;order x does q rank 8;order y does p rank 1;order z does r rank 5;order y does q rank 2;order u does r rank 9;"
        + "seen x does q;seen v idle;seen z idle;seen t idle;seen w idle";

    private States() {
    }

    /** All that have a COUNTY. */
    static List<Supplier<SleepWords>> told() {
        return List.of(States::lean, States::fresh, States::busy, States::woken, States::brim);
    }

    /** All that have none. */
    static List<Supplier<SleepWords>> untold() {
        return List.of(States::empty, States::none, States::faulted);
    }

    /** All in which nothing was done yet: no ACT, no IMAGE. */
    static List<Supplier<SleepWords>> untouched() {
        return List.of(States::empty, States::none, States::faulted, States::lean, States::fresh);
    }

    /** A new object. */
    static SleepWords empty() {
        return new SleepWords();
    }

    /** No COUNTY, with a text on THE TAPE that was not told yet. */
    static SleepWords none() {
        return fed(new SleepWords());
    }

    /** No COUNTY: the only one that was told had a FAULT in its last line. */
    static SleepWords faulted() {
        SleepWords x = new SleepWords();
        must(Check.tell(x, BRIM + ";seen") == -1);
        return fed(x);
    }

    /** One sleeper, nothing else. */
    static SleepWords lean() {
        return fed(Counties.lean());
    }

    static SleepWords fresh() {
        return fed(Counties.full());
    }

    /** Days went by, a word was said, some are tended, there are images and acts that can be undone. */
    static SleepWords busy() {
        SleepWords x = fed(Counties.full());
        must(x.tend(0, 0));
        must(x.day() == 25);
        must(x.image() == 0);
        must(x.say(1) == 0);
        must(x.tend(0, 1));
        must(x.tend(1, 4));
        must(x.seed(4321));
        must(x.image() == 1);
        return x;
    }

    /** Awake, while bee and dog (0 and 3) were not said. */
    static SleepWords woken() {
        SleepWords x = fed(Counties.full());
        must(x.tend(0, 0));
        must(x.day() == 25);
        must(x.tend(0, 1));
        must(x.image() == 0);
        must(x.say(1) == 0);
        must(x.say(2) == 1);
        return x;
    }

    /** No room left: for lines, for hands of the first awake one, for images; 16 acts are kept. */
    static SleepWords brim() {
        SleepWords x = fed(Check.of(BRIM));
        must(x.image() == 0);
        for (int d = 0; d < 16; d++) {
            must(x.day() >= 0);
        }
        must(x.image() == 1);
        must(x.tend(0, 0));
        must(x.image() == 2);
        return x;
    }

    private static SleepWords fed(SleepWords x) {
        Check.feed(x, Counties.LEAN);
        return x;
    }

    private static void must(boolean holds) {
        if (!holds) {
            throw new IllegalStateException("a state can't be made");
        }
    }
}
