import java.util.List;
import java.util.function.Consumer;
import java.util.function.Supplier;

/** The boundary cases of the promises 1 to 5: a new object, feed, county, fault, where. */
public final class CountyEdgesTest {
    private static final Edges EDGES = new Edges("CountyEdgesTest");
    private static final List<Supplier<SleepWords>> STATES =
        List.of(States::none, States::lean, States::fresh, States::busy, States::woken, States::brim);

    public static void main(String[] args) {
        EDGES.test("## What it is", "An object is used for at most 512 calls after it has been made", CountyEdgesTest::lastCall);
        EDGES.promise(1, "No COUNTY.", CountyEdgesTest::noCounty);
        EDGES.promise(2, "Twenty bytes come behind THE TAPE", CountyEdgesTest::behindTheTape);
        EDGES.promise(2, "of each number the highest first", CountyEdgesTest::highestFirst);
        EDGES.promise(2, "how many it has", CountyEdgesTest::howMany);
        EDGES.promise(2, "NONE, and none comes, if there would be more than 900", CountyEdgesTest::noneComes);
        EDGES.promise(3, "The first n bytes of THE TAPE", CountyEdgesTest::firstBytes);
        EDGES.promise(3, "(it is empty then)", CountyEdgesTest::emptyThen);
        EDGES.promise(3, "are the COUNTY from now on (day 0, SEED 0, no HARM, no word said, nobody tended; nothing to undo, no IMAGES)",
            CountyEdgesTest::fromNowOn);
        EDGES.promise(3, "how many sleepers", CountyEdgesTest::howManySleepers);
        EDGES.promise(3, "NONE: 2 (THE TAPE stays)", CountyEdgesTest::tapeStays);
        EDGES.promise(3, "4 (the COUNTY stays)", CountyEdgesTest::countyStays);
        EDGES.promise(4, "The FAULT of the latest county() not refused by 2", CountyEdgesTest::latestFault);
        EDGES.promise(4, "0 without one", CountyEdgesTest::noFault);
        EDGES.promise(5, "Its place, if the latest call that may be refused was by 4", CountyEdgesTest::placeOfFault);
        EDGES.promise(5, "NONE else", CountyEdgesTest::noPlace);
        EDGES.end(1, 5);
    }

    private static void lastCall() {
        SleepWords x = new SleepWords();
        for (int i = 0; i < 3; i++) {
            x.feed(0, 0, 0, 0, 0);
        }
        x.county(0);
        // 52 bytes in three calls, then the county: 8 calls so far.
        Check.feed(x, Counties.LEAN);
        x.county(Counties.LEAN.length());
        for (int call = 9; call < 512; call++) {
            EDGES.due("call " + call, x.day(), 0);
        }
        EDGES.due("the 512th call", x.size(8), 503);
    }

    private static void noCounty() {
        for (int what = 0; what <= 13; what++) {
            EDGES.due("size(" + what + ")", new SleepWords().size(what), 0);
        }
        EDGES.due("trouble()", new SleepWords().trouble(), 0);
        EDGES.due("fault()", new SleepWords().fault(), 0);
        EDGES.due("where()", new SleepWords().where(), -1);
        EDGES.refused("tending()", States::empty, SleepWords::tending, -1, 1);
        EDGES.refused("back(0)", States::empty, x -> x.back(0) ? 1 : 0, 0, 1);
        EDGES.refused("undo()", States::empty, x -> x.undo() ? 1 : 0, 0, 6);
        EDGES.dueNoSuchElement("led(0)", new SleepWords(), 0);
        // Without one a text that has a FAULT makes none.
        SleepWords x = new SleepWords();
        Check.tell(x, "county lacks 7 snow 50;sleeper s plain in 0 frail 21");
        for (int what = 0; what <= 13; what++) {
            EDGES.due("behind a FAULT size(" + what + ")", x.size(what), 0);
        }
        EDGES.due("behind a FAULT tending()", x.tending(), -1);
        EDGES.due("behind a FAULT trouble()", x.trouble(), 1);
    }

    private static int[] blanksBut(int place) {
        int[] numbers = {0x20202020, 0x20202020, 0x20202020, 0x20202020, 0x20202020};
        int shift = 24 - 8 * (place % 4);
        numbers[place / 4] = numbers[place / 4] & ~(255 << shift) | '?' << shift;
        return numbers;
    }

    private static void behindTheTape() {
        for (int ahead = 0; ahead <= 44; ahead++) {
            SleepWords x = new SleepWords();
            for (int i = 0; i < ahead; i++) {
                x.feed(0x20202020, 0x20202020, 0x20202020, 0x20202020, 0x20202020);
            }
            int[] n = blanksBut(19);
            EDGES.due("feed behind " + ahead, x.feed(n[0], n[1], n[2], n[3], n[4]), 20 * ahead + 20);
            x.county(20 * ahead + 20);
            EDGES.due("its last byte", x.where(), 20 * ahead + 19);
        }
    }

    private static void highestFirst() {
        for (int place = 0; place < 20; place++) {
            SleepWords x = new SleepWords();
            int[] n = blanksBut(place);
            x.feed(n[0], n[1], n[2], n[3], n[4]);
            x.county(20);
            EDGES.due("fault() of byte " + place, x.fault(), 1);
            EDGES.due("where() of byte " + place, x.where(), place);
        }
        // Bytes above 127 are no small letters, in a number below 0 or above it.
        for (int number : new int[] {0xE1616161, 0x61E16161, 0x6161E161, 0x616161E1}) {
            SleepWords x = new SleepWords();
            x.feed(0x20202020, number, 0x20202020, 0x20202020, 0x20202020);
            x.county(20);
            EDGES.due("fault() of " + number, x.fault(), 1);
            EDGES.due("where() of " + number, x.where(), 4);
        }
    }

    private static void howMany() {
        SleepWords x = new SleepWords();
        for (int i = 1; i <= 45; i++) {
            EDGES.due("feed " + i, x.feed(0, -1, Integer.MIN_VALUE, Integer.MAX_VALUE, 1), 20 * i);
            EDGES.due("size(13) behind feed " + i, x.size(13), 20 * i);
        }
    }

    /** A text of all 900 bytes, told for a sleeper of frail 17. */
    private static String wide() {
        String text = "county lacks 7 snow 50;sleeper s plain in 0 frail 17";
        return text.replace(";", ";" + " ".repeat(900 - text.length()));
    }

    private static void noneComes() {
        SleepWords x = new SleepWords();
        Check.feed(x, wide().substring(0, 880));
        EDGES.due("size(13)", x.size(13), 880);
        EDGES.due("the last that comes", x.feed(0x20706c61, 0x696e2069, 0x6e203020, 0x66726169, 0x6c203137), 900);
        x.undo();
        for (int i = 0; i < 3; i++) {
            EDGES.due("the first that doesn't", x.feed(0, 0, 0, 0, 0), -1);
            EDGES.due("size(13) stays", x.size(13), 900);
            EDGES.due("trouble() stays", x.trouble(), 6);
        }
        EDGES.due("county(901)", x.county(901), -1);
        EDGES.due("county(900)", x.county(900), 1);
        EDGES.due("its last bytes", x.sleeper(0, 2), 17);
        // Emptied, there is room for all of it again.
        for (int i = 1; i <= 45; i++) {
            EDGES.due("feed again " + i, x.feed(0, 0, 0, 0, 0), 20 * i);
        }
        EDGES.due("and no more", x.feed(0, 0, 0, 0, 0), -1);
    }

    private static void firstBytes() {
        String text = "county lacks 7 snow 50;sleeper s plain in 0 frail 17;sleeper t old in 3 frail 4";
        int first = text.indexOf(";sleeper t");
        for (int n : new int[] {first - 1, first, text.length(), 80}) {
            SleepWords x = new SleepWords();
            Check.feed(x, text);
            EDGES.due("county(" + n + ")", x.county(n), n > first ? 2 : 1);
            EDGES.due("frail by " + n, x.sleeper(0, 2), n < first ? 1 : 17);
        }
        // What stands behind them means nothing, not even to a word at their end.
        SleepWords x = new SleepWords();
        Check.feed(x, "county lacks 7 snow 50;seen idles");
        EDGES.due("county(32)", x.county(32), -1);
        EDGES.due("fault()", x.fault(), 1);
        EDGES.due("where()", x.where(), 32);
        SleepWords none = new SleepWords();
        Check.feed(none, text);
        EDGES.due("county(0)", none.county(0), -1);
        EDGES.due("trouble() of no bytes", none.trouble(), 4);
        EDGES.due("where() of no bytes", none.where(), 0);
    }

    private static void emptyThen() {
        SleepWords x = new SleepWords();
        Check.feed(x, Counties.LEAN);
        EDGES.due("size(13)", x.size(13), 60);
        EDGES.due("county()", x.county(Counties.LEAN.length()), 1);
        EDGES.due("size(13) behind a county", x.size(13), 0);
        EDGES.due("county(1) of none", x.county(1), -1);
        EDGES.due("trouble()", x.trouble(), 2);
        EDGES.due("feed", x.feed(0, 0, 0, 0, 0), 20);
        EDGES.due("county(1)", x.county(1), -1);
        EDGES.due("trouble()", x.trouble(), 4);
        EDGES.due("size(13) behind a FAULT", x.size(13), 0);
        EDGES.due("feed", x.feed(0, 0, 0, 0, 0), 20);
        EDGES.due("county(0)", x.county(0), -1);
        EDGES.due("size(13) behind a FAULT of nothing", x.size(13), 0);
        EDGES.due("county(0) of none", x.county(0), -1);
        EDGES.due("trouble() of it", x.trouble(), 4);
    }

    private static void fromNowOn() {
        for (Supplier<SleepWords> state : STATES) {
            for (String text : new String[] {Counties.LEAN, Counties.FULL}) {
                SleepWords x = state.get();
                x.seed(65536);
                // The text that lies on THE TAPE goes first.
                x.county(0);
                Check.feed(x, text);
                EDGES.due("county()", x.county(text.length()) > 0, true);
                EDGES.due("trouble()", x.trouble(), 0);
                EDGES.same("an earlier county", x, Check.of(text));
            }
        }
        nothingIsLeftOver();
        SleepWords x = States.woken();
        x.seed(9);
        EDGES.due("county()", x.county(Counties.LEAN.length()), 1);
        int[] sizes = {1, 100, 1, 0, 0, 0, 0, 0, 0, 0, 0, 0, 0, 0};
        for (int what = 0; what < sizes.length; what++) {
            EDGES.due("size(" + what + ")", x.size(what), sizes[what]);
        }
        EDGES.due("undo()", x.undo(), false);
        EDGES.due("back(0)", x.back(0), false);
        EDGES.due("sleeper(0, 3)", x.sleeper(0, 3), 0);
        EDGES.due("sleeper(0, 4)", x.sleeper(0, 4), -2);
        EDGES.dueNoSuchElement("led(0)", x, 0);
    }

    /** Two texts ahead of it, told to their end or to a FAULT, and all that was asked of them, mean nothing. */
    private static void nothingIsLeftOver() {
        String other = "county lacks 2 snow 3;sleeper p hardy in 9 frail 1;sleeper q plain in 8 frail 9;sleeper r plain in 8 frail 8;"
            + "awake t in 9 hands 1 reach 1;word wa odds 2 minutes 3;word wb odds 1 minutes 5;word wc odds 2 minutes 1;"
            + "order x does p rank 9;order y does q rank 8;order y does p rank 7;seen x idle;seen y does p";
        String two = "county lacks 1 snow 0;sleeper a plain in 0 frail 1;awake b in 0 hands 1 reach 0";
        String[] texts = {Counties.LEAN, Counties.FULL, States.BRIM, other, two, States.BRIM + ";seen"};
        for (String first : texts) {
            for (String second : texts) {
                for (int last = 0; last < texts.length - 1; last++) {
                    SleepWords x = new SleepWords();
                    for (String ahead : new String[] {first, second}) {
                        Check.tell(x, ahead);
                        x.tending();
                        x.mean(true);
                        x.fits();
                        x.day();
                        x.image();
                    }
                    EDGES.due("county()", Check.tell(x, texts[last]) > 0, true);
                    EDGES.same("two texts ahead", x, Check.of(texts[last]));
                }
            }
        }
    }

    private static void howManySleepers() {
        StringBuilder text = new StringBuilder("county lacks 7 snow 50");
        for (int s = 1; s <= 7; s++) {
            text.append(";sleeper ").append((char) ('a' + s)).append(" old in 0 frail 1");
            EDGES.county(text.toString(), s);
        }
    }

    private static void tapeStays() {
        for (int n : new int[] {-1, 61, 900, 901, Integer.MIN_VALUE, Integer.MAX_VALUE}) {
            for (Supplier<SleepWords> state : STATES) {
                EDGES.refused("county(" + n + ")", state, x -> x.county(n), -1, 2);
            }
        }
        EDGES.refused("county(1) of an empty tape", States::empty, x -> x.county(1), -1, 2);
        EDGES.refused("county(-1) of an empty tape", States::empty, x -> x.county(-1), -1, 2);
        SleepWords x = States.none();
        EDGES.due("county(60), the last that is there", x.county(60), 1);
    }

    private static void countyStays() {
        String[] texts = {"", "town", "county lacks 0", "county lacks 3 snow 4;sleeper z old in 1 frail 2;sleeper z",
            "county lacks 3 snow 4;sleeper z old in 1 frail 2;word y odds 1 minutes 1;before y x", "sleeper z", States.BRIM + ";seen",
            "county lacks 3 snow 4;sleeper z old in 1 frail 2;word y odds 1 minutes 1;word x odds 1 minutes 1;before y x;before x y"};
        int[] faults = {1, 1, 4, 3, 2, 6, 5, 7};
        for (int i = 0; i < texts.length; i++) {
            for (Supplier<SleepWords> state : STATES) {
                SleepWords x = state.get();
                x.county(0);
                EDGES.due("county of: " + texts[i], Check.tell(x, texts[i]), -1);
                EDGES.due("trouble()", x.trouble(), 4);
                EDGES.due("fault()", x.fault(), faults[i]);
                EDGES.dueSame("county of: " + texts[i], Whole.ofCounty(x), Whole.ofCounty(state.get()));
            }
        }
    }

    private static void latestFault() {
        SleepWords x = new SleepWords();
        String[] texts = {"town", "county lacks 3 snow 4;sleeper z old in 1 frail 2;before y x", "county lacks 3 snow 4;county", "county lacks 0",
            States.BRIM + ";seen", "sleeper", "county lacks 3 snow 4;sleeper z old in 1 frail 2;word y odds 1 minutes 1;word x odds 1 minutes 1;"
            + "before y x;before x y"};
        for (int i = 0; i < texts.length; i++) {
            Check.tell(x, texts[i]);
            EDGES.due("fault() of: " + texts[i], x.fault(), i + 1);
            EDGES.due("county(-1)", x.county(-1), -1);
            EDGES.due("county(1)", x.county(1), -1);
            EDGES.due("refused by", x.trouble(), 2);
            EDGES.due("fault() behind a refusal by 2", x.fault(), i + 1);
            x.harm();
            EDGES.due("fault() behind other calls", x.fault(), i + 1);
        }
    }

    private static void noFault() {
        SleepWords x = new SleepWords();
        EDGES.due("fault() of a new object", x.fault(), 0);
        x.county(1);
        EDGES.due("fault() behind a first refusal by 2", x.fault(), 0);
        x.county(0);
        EDGES.due("fault() of one", x.fault(), 1);
        Check.tell(x, Counties.LEAN);
        EDGES.due("fault() behind a county", x.fault(), 0);
        x.county(1);
        EDGES.due("fault() behind a county and a refusal by 2", x.fault(), 0);
    }

    private static SleepWords faulty() {
        SleepWords x = States.busy();
        Check.feed(x, Counties.LEAN);
        x.county(60 + 23);
        return x;
    }

    private static void placeOfFault() {
        EDGES.due("where()", faulty().where(), 52 + 8);
        // Calls that are never refused leave it.
        List<Consumer<SleepWords>> aside = List.of(x -> x.feed(1, 2, 3, 4, 5), SleepWords::fault, SleepWords::where,
            x -> x.size(14), x -> x.size(8), SleepWords::trouble, x -> x.led(0), x -> EDGES.dueNoSuchElement("led(7)", x, 7));
        SleepWords all = faulty();
        for (Consumer<SleepWords> call : aside) {
            SleepWords x = faulty();
            call.accept(x);
            EDGES.due("where() behind one", x.where(), 60);
            call.accept(all);
            EDGES.due("where() behind several", all.where(), 60);
        }
        // The end, as far as it can be.
        SleepWords x = new SleepWords();
        Check.feed(x, " ".repeat(900));
        x.county(900);
        EDGES.due("where() at the end", x.where(), 900);
        x.county(0);
        EDGES.due("where() at the beginning", x.where(), 0);
    }

    private static void noPlace() {
        EDGES.due("where() of a new object", new SleepWords().where(), -1);
        List<Consumer<SleepWords>> calls = List.of(SleepWords::harm, x -> x.sleeper(9, 0), x -> x.counts(-1), x -> x.tend(1, 2), x -> x.tend(1, 0),
            x -> x.county(-1), SleepWords::undo);
        int[] troubles = {0, 1, 2, 3, 5, 2, 0};
        for (int i = 0; i < troubles.length; i++) {
            SleepWords x = States.busy();
            x.county(0);
            EDGES.due("where() of a FAULT", x.where(), 0);
            calls.get(i).accept(x);
            EDGES.due("trouble() " + i, x.trouble(), troubles[i]);
            EDGES.due("where() behind it", x.where(), -1);
        }
        SleepWords x = new SleepWords();
        x.county(0);
        x.undo();
        EDGES.due("trouble() of nothing undone", x.trouble(), 6);
        EDGES.due("where() behind it", x.where(), -1);
        Check.tell(x, Counties.LEAN);
        EDGES.due("where() behind a county", x.where(), -1);
    }
}
