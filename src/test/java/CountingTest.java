/** Promises 6 to 8: counts, really, sum. */
public final class CountingTest {
    private static final Check CHECK = new Check("CountingTest");

    public static void main(String[] args) {
        for (int lacks = 1; lacks <= 9; lacks++) {
            countOn(lacks);
            edges(lacks);
        }
        sums();
        wrongInputs();
        CHECK.end();
    }

    private static boolean has(int number, int digit) {
        return Integer.toString(number).indexOf('0' + digit) >= 0;
    }

    private static SleepWords county(int lacks) {
        return Check.of("county lacks " + lacks + " snow 0;sleeper s plain in 0 frail 1");
    }

    /** Counting up to 1,999 by hand, each object asked less than 512 times. */
    private static void countOn(int lacks) {
        SleepWords x = county(lacks);
        int things = 0;
        int calls = 0;
        for (int number = 0; number < 2000; number++) {
            if (calls > 400) {
                x = county(lacks);
                calls = 0;
            }
            if (has(number, lacks)) {
                CHECK.due("lacks " + lacks + ", really(" + number + ")", x, x.really(number), -2, 0);
                calls += 2;
            } else {
                CHECK.due("lacks " + lacks + ", really(" + number + ")", x.really(number), things);
                CHECK.due("lacks " + lacks + ", counts(" + things + ")", x.counts(things), number);
                calls += 2;
                things++;
            }
        }
    }

    private static void edges(int lacks) {
        int things = 0;
        int last = 0;
        int most = 0;
        for (int number = 1; number <= 999999; number++) {
            if (!has(number, lacks)) {
                things++;
                most = number;
                last = things == 99999 ? number : last;
            }
        }
        SleepWords x = county(lacks);
        CHECK.due("lacks " + lacks + ", counts(99999)", x, x.counts(99999), last, 0);
        CHECK.due("lacks " + lacks + ", really(" + last + ")", x, x.really(last), 99999, 0);
        CHECK.due("lacks " + lacks + ", really(" + most + ")", x, x.really(most), things, 0);
        CHECK.due("lacks " + lacks + ", really(999999)", x, x.really(999999), lacks == 9 ? -2 : things, 0);
    }

    private static void sums() {
        SleepWords x = county(7);
        CHECK.due("sum(0, 0)", x, x.sum(0, 0), 0, 0);
        CHECK.due("sum(6, 1)", x.sum(6, 1), 8);
        CHECK.due("sum(9, 9)", x.sum(9, 9), 18);
        CHECK.due("sum(8, 8)", x.sum(8, 8), 15);
        CHECK.due("sum(70, 1)", x, x.sum(70, 1), -2, 0);
        CHECK.due("sum(1, 17)", x, x.sum(1, 17), -2, 0);
        // 59,048 things twice: more than counts() may be asked for.
        CHECK.due("sum(99999, 99999)", x, x.sum(99999, 99999), 199998, 0);
        SleepWords y = county(9);
        CHECK.due("sum(88888, 88888)", y, y.sum(88888, 88888), 188887, 0);
        CHECK.due("sum(88888, 1)", y, y.sum(88888, 1), 100000, 0);
    }

    private static void wrongInputs() {
        SleepWords none = new SleepWords();
        CHECK.due("no county, counts(-1)", none, none.counts(-1), -1, 1);
        CHECK.due("no county, really(-1)", none, none.really(-1), -1, 1);
        CHECK.due("no county, sum(-1, -1)", none, none.sum(-1, -1), -1, 1);
        SleepWords x = county(7);
        CHECK.due("counts(-1)", x, x.counts(-1), -1, 2);
        CHECK.due("counts(100000)", x, x.counts(100000), -1, 2);
        CHECK.due("really(-1)", x, x.really(-1), -1, 2);
        CHECK.due("really(1000000)", x, x.really(1000000), -1, 2);
        CHECK.due("sum(-1, 0)", x, x.sum(-1, 0), -1, 2);
        CHECK.due("sum(0, -1)", x, x.sum(0, -1), -1, 2);
        CHECK.due("sum(100000, 0)", x, x.sum(100000, 0), -1, 2);
        CHECK.due("sum(7, 100000)", x, x.sum(7, 100000), -1, 2);
    }
}
