import java.util.NoSuchElementException;

/** What the tests share: counting of wrong answers, and texts given to the tape. */
final class Check {
    private final String test;
    private int wrong;
    private int asked;

    Check(String test) {
        this.test = test;
    }

    void due(String call, long got, long want) {
        asked++;
        if (got != want) {
            wrong++;
            System.out.println(test + ": " + call + " answered " + got + ", due is " + want);
        }
    }

    void due(String call, boolean got, boolean want) {
        due(call, got ? 1 : 0, want ? 1 : 0);
    }

    /** An answer and the TROUBLE that it leaves. */
    void due(String call, SleepWords x, long got, long want, int trouble) {
        due(call, got, want);
        due(call + ", trouble()", x.trouble(), trouble);
    }

    void due(String call, SleepWords x, boolean got, boolean want, int trouble) {
        due(call, got, want);
        due(call + ", trouble()", x.trouble(), trouble);
    }

    void dueNoSuchElement(String call, SleepWords x, int i) {
        asked++;
        try {
            int got = x.led(i);
            wrong++;
            System.out.println(test + ": " + call + " answered " + got + ", due is NoSuchElementException");
        } catch (NoSuchElementException e) {
            // as due
        }
    }

    void fail(String what) {
        asked++;
        wrong++;
        System.out.println(test + ": " + what);
    }

    void end() {
        System.out.println(test + ": " + asked + " answers, " + wrong + " wrong");
        if (wrong != 0 || asked == 0) {
            System.exit(1);
        }
    }

    static void feed(SleepWords x, String text) {
        StringBuilder padded = new StringBuilder(text);
        while (padded.length() % 20 != 0) {
            padded.append(' ');
        }
        for (int i = 0; i < padded.length(); i += 20) {
            x.feed(four(padded, i), four(padded, i + 4), four(padded, i + 8), four(padded, i + 12), four(padded, i + 16));
        }
    }

    private static int four(CharSequence text, int i) {
        return text.charAt(i) << 24 | text.charAt(i + 1) << 16 | text.charAt(i + 2) << 8 | text.charAt(i + 3);
    }

    /** Feeds a text and makes it the county: what county() answered. */
    static int tell(SleepWords x, String text) {
        feed(x, text);
        return x.county(text.length());
    }

    static SleepWords of(String text) {
        SleepWords x = new SleepWords();
        int sleepers = tell(x, text);
        if (sleepers < 0) {
            throw new IllegalStateException("fault " + x.fault() + " at " + x.where() + " in: " + text);
        }
        return x;
    }
}
