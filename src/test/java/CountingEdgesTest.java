import java.util.function.Supplier;

/** The boundary cases of COUNT and of the promises 6 to 8: counts, really, sum. */
public final class CountingEdgesTest {
    private static final Edges EDGES = new Edges("CountingEdgesTest");

    public static void main(String[] args) {
        EDGES.term("II", "(0: 0; if 7 lacks: .. 6, 8, 9, 10, .. 16, 18, ..)", CountingEdgesTest::sevenLacks);
        EDGES.term("II", "They COUNT by numbers in which that digit isn't: n things are told by the n-th of these", CountingEdgesTest::nthOfThese);
        EDGES.promise(6, "What they COUNT for so many things (0 .. 99,999).", CountingEdgesTest::countsBounds);
        EDGES.promise(6, "NONE: 1 (no COUNTY); 2.", () -> EDGES.bounds("counts()", SleepWords::counts, -1, 0, 99999));
        EDGES.promise(7, "How many things there are, if they COUNT so many (0 .. 999,999)", CountingEdgesTest::reallyBounds);
        EDGES.promise(7, "-2 they never do", CountingEdgesTest::neverDo);
        EDGES.promise(7, "NONE: 1 (no COUNTY); 2.", () -> EDGES.bounds("really()", SleepWords::really, -1, 0, 999999));
        EDGES.promise(8, "What they COUNT for the things of two numbers they told (0 .. 99,999 each), together", CountingEdgesTest::sumBounds);
        EDGES.promise(8, "-2 they never tell one of them", CountingEdgesTest::neverTell);
        EDGES.promise(8, "NONE: 1 (no COUNTY); 2.", CountingEdgesTest::sumRefused);
        EDGES.end(6, 8);
    }

    private static SleepWords lacking(int digit) {
        return Check.of("county lacks " + digit + " snow 0;sleeper s plain in 0 frail 1");
    }

    private static boolean has(int number, int digit) {
        return Integer.toString(number).indexOf('0' + digit) >= 0;
    }

    private static void sevenLacks() {
        int[] things = {0, 6, 7, 8, 9, 15, 16};
        int[] counted = {0, 6, 8, 9, 10, 16, 18};
        for (int i = 0; i < things.length; i++) {
            int n = things[i];
            int told = counted[i];
            EDGES.told("counts(" + n + ")", States::busy, x -> x.counts(n), told);
            EDGES.told("really(" + told + ")", States::busy, x -> x.really(told), n);
        }
        EDGES.due("counts(62), the last below 70", lacking(7).counts(62), 69);
        EDGES.due("counts(63), the first behind 79", lacking(7).counts(63), 80);
    }

    /** Where a place is full, the next one counts on: 9, 81, 729, .. things. */
    private static void nthOfThese() {
        for (int digit = 1; digit <= 9; digit++) {
            int n = 0;
            for (int number = 0; number <= 1200; number++) {
                if (!has(number, digit)) {
                    SleepWords x = lacking(digit);
                    EDGES.due(digit + " lacks, counts(" + n + ")", x.counts(n), number);
                    EDGES.due(digit + " lacks, really(" + number + ")", x.really(number), n);
                    n++;
                }
            }
        }
        EDGES.due("1 lacks, counts(1)", lacking(1).counts(1), 2);
        EDGES.due("1 lacks, counts(9)", lacking(1).counts(9), 20);
        EDGES.due("9 lacks, counts(8)", lacking(9).counts(8), 8);
        EDGES.due("9 lacks, counts(9)", lacking(9).counts(9), 10);
    }

    /** What is counted for so many things, by counting. */
    private static int counted(int digit, int things) {
        int number = 0;
        for (int n = 0; n < things; n++) {
            do {
                number++;
            } while (has(number, digit));
        }
        return number;
    }

    private static void countsBounds() {
        for (int digit = 1; digit <= 9; digit++) {
            SleepWords x = lacking(digit);
            EDGES.due(digit + " lacks, counts(0)", x.counts(0), 0);
            EDGES.due(digit + " lacks, counts(99999)", x.counts(99999), counted(digit, 99999));
            EDGES.due("trouble()", x.trouble(), 0);
            EDGES.due(digit + " lacks, counts(99998)", x.counts(99998), counted(digit, 99998));
        }
        for (Supplier<SleepWords> state : States.told()) {
            EDGES.told("counts(0)", state, x -> x.counts(0), 0);
        }
        EDGES.told("counts(99999)", States::busy, x -> x.counts(99999), 162150);
    }

    private static void reallyBounds() {
        // 999,999 without the 7 are six nines, the last number of six digits to nine.
        EDGES.told("really(0)", States::busy, x -> x.really(0), 0);
        EDGES.told("really(999999)", States::busy, x -> x.really(999999), 531440);
        for (int digit = 1; digit <= 8; digit++) {
            EDGES.due(digit + " lacks, really(999999)", lacking(digit).really(999999), 531440);
        }
        EDGES.due("9 lacks, really(888888)", lacking(9).really(888888), 531440);
        EDGES.due("9 lacks, really(999999)", lacking(9).really(999999), -2);
    }

    private static void neverDo() {
        for (int digit = 1; digit <= 9; digit++) {
            for (int place = 1; place <= 100000; place *= 10) {
                SleepWords x = lacking(digit);
                int never = digit * place;
                EDGES.due(digit + " lacks, really(" + never + ")", x.really(never), -2);
                EDGES.due("trouble()", x.trouble(), 0);
                int beside = (digit == 9 ? 8 : digit + 1) * place;
                EDGES.due(digit + " lacks, really(" + beside + ") is told", x.really(beside) > 0, true);
            }
        }
        EDGES.told("really(7)", States::woken, x -> x.really(7), -2);
        EDGES.told("really(100090) where 9 lacks", States::brim, x -> x.really(100090), -2);
        EDGES.told("really(0)", States::lean, x -> x.really(0), 0);
    }

    private static void sumBounds() {
        EDGES.told("sum(0, 0)", States::busy, x -> x.sum(0, 0), 0);
        // 59,048 things each, which is more together than counts() may be asked for.
        EDGES.told("sum(99999, 99999)", States::busy, x -> x.sum(99999, 99999), 199998);
        EDGES.told("sum(99999, 0)", States::busy, x -> x.sum(99999, 0), 99999);
        EDGES.told("sum(0, 99999)", States::busy, x -> x.sum(0, 99999), 99999);
        EDGES.told("sum(99999, 1)", States::busy, x -> x.sum(99999, 1), 100000);
        EDGES.told("sum(6, 1)", States::busy, x -> x.sum(6, 1), 8);
        EDGES.told("sum(9, 1)", States::busy, x -> x.sum(9, 1), 10);
        EDGES.due("9 lacks, sum(88888, 88888)", lacking(9).sum(88888, 88888), 188887);
        EDGES.due("1 lacks, sum(99999, 99999)", lacking(1).sum(99999, 99999), counted(1, 118096));
    }

    private static void neverTell() {
        EDGES.told("sum(7, 0)", States::busy, x -> x.sum(7, 0), -2);
        EDGES.told("sum(0, 7)", States::busy, x -> x.sum(0, 7), -2);
        EDGES.told("sum(7, 7)", States::busy, x -> x.sum(7, 7), -2);
        EDGES.told("sum(70000, 99999)", States::busy, x -> x.sum(70000, 99999), -2);
        EDGES.told("sum(99999, 99799)", States::busy, x -> x.sum(99999, 99799), -2);
        EDGES.told("sum(99999, 1) where 9 lacks", States::brim, x -> x.sum(99999, 1), -2);
    }
    private static void sumRefused() {
        EDGES.bounds("sum(, 0)", (x, n) -> x.sum(n, 0), -1, 0, 99999);
        EDGES.bounds("sum(0, )", (x, n) -> x.sum(0, n), -1, 0, 99999);
        // A wrong number goes ahead of one that they never tell.
        EDGES.refused("sum(7, 100000)", States::busy, x -> x.sum(7, 100000), -1, 2);
        EDGES.refused("sum(-1, 7)", States::busy, x -> x.sum(-1, 7), -1, 2);
    }
}
