/** Promises 1 to 5: a new object, feed, county, fault, where. */
public final class CountyTest {
    private static final Check CHECK = new Check("CountyTest");
    private static final String HEAD = "county lacks 7 snow 50;";
    private static final String ONE = HEAD + "sleeper s plain in 0 frail 1;";

    public static void main(String[] args) {
        newObject();
        feeding();
        tapeKeptOrEmptied();
        countyStaysOnFault();
        countyBeginsAnew();
        faultAndWhereLast();
        wellFormed();
        formFaults();
        nameFaults();
        againFaults();
        boundFaults();
        manyFaults();
        lackFaults();
        ringFaults();
        leftmostAndLeast();
        CHECK.end();
    }

    private static void newObject() {
        SleepWords x = new SleepWords();
        for (int what = 0; what <= 13; what++) {
            CHECK.due("new size(" + what + ")", x.size(what), 0);
        }
        CHECK.due("new trouble()", x.trouble(), 0);
        CHECK.due("new fault()", x.fault(), 0);
        CHECK.due("new where()", x.where(), -1);
        CHECK.due("new counts(1)", x, x.counts(1), -1, 1);
        CHECK.due("new where()", x.where(), -1);
    }

    private static void feeding() {
        SleepWords x = new SleepWords();
        for (int i = 1; i <= 45; i++) {
            CHECK.due("feed " + i, x.feed(0, 0, 0, 0, 0), 20 * i);
        }
        CHECK.due("feed 46", x.feed(0, 0, 0, 0, 0), -1);
        CHECK.due("feed refused has no number", x.trouble(), 0);
        CHECK.due("full size(13)", x.size(13), 900);
        CHECK.due("county(901)", x, x.county(901), -1, 2);
        CHECK.due("feed again", x.feed(0, 0, 0, 0, 0), -1);
        CHECK.due("feed leaves trouble", x.trouble(), 2);
        // The highest byte comes first, signs above 127 too.
        SleepWords y = new SleepWords();
        Check.feed(y, ONE);
        y.feed(0xE9202020, 0x20202020, 0x20202020, 0x20202020, 0x20202020);
        int n = y.size(13);
        CHECK.due("county of a high byte", y, y.county(n), -1, 4);
        CHECK.due("fault of a high byte", y.fault(), 1);
        CHECK.due("where of a high byte", y.where(), n - 20);
        // A text of the whole tape is read.
        SleepWords z = new SleepWords();
        String text = HEAD + "sleeper s plain in 0 frail 1";
        StringBuilder wide = new StringBuilder(text);
        while (wide.length() < 900) {
            wide.insert(HEAD.length(), ' ');
        }
        CHECK.due("county of 900", z, Check.tell(z, wide.toString()), 1, 0);
    }

    private static void tapeKeptOrEmptied() {
        SleepWords x = new SleepWords();
        Check.feed(x, ONE);
        int n = x.size(13);
        CHECK.due("county(-1)", x, x.county(-1), -1, 2);
        CHECK.due("county(n + 1)", x, x.county(n + 1), -1, 2);
        CHECK.due("the tape stays", x.size(13), n);
        CHECK.due("county(0)", x, x.county(0), -1, 4);
        CHECK.due("fault of nothing", x.fault(), 1);
        CHECK.due("where of nothing", x.where(), 0);
        CHECK.due("the tape is empty behind a fault", x.size(13), 0);
        Check.feed(x, ONE);
        CHECK.due("county without the last ;", x, x.county(ONE.length() - 1), 1, 0);
        CHECK.due("the tape is empty behind a county", x.size(13), 0);
        CHECK.due("county(1) of an empty tape", x, x.county(1), -1, 2);
        CHECK.due("county(0) of an empty tape", x, x.county(0), -1, 4);
    }

    private static void countyStaysOnFault() {
        SleepWords x = Check.of(ONE + "sleeper t old in 3 frail 4;awake a in 1 hands 1 reach 9;word w odds 1 minutes 1");
        x.tend(0, 1);
        x.day();
        x.image();
        x.seed(5);
        CHECK.due("county with a fault", x, Check.tell(x, "county lacks 1 snow 1;sleeper q old in 1 frail 0"), -1, 4);
        int[] sizes = {7, 50, 2, 1, 1, 0, 0, 0, 1, 0, 5, 2, 1, 0};
        for (int what = 0; what < sizes.length; what++) {
            CHECK.due("stays, size(" + what + ")", x.size(what), sizes[what]);
        }
        CHECK.due("stays, sleeper(1, 2)", x.sleeper(1, 2), 4);
        CHECK.due("stays, tendedBy(1)", x.tendedBy(1), 0);
        CHECK.due("stays, harmed()", x.harmed(), 1);
    }

    private static void countyBeginsAnew() {
        SleepWords x = Check.of(ONE + "awake a in 0 hands 1 reach 0;word w odds 1 minutes 1;word v odds 1 minutes 1;"
            + "before w v;order x does y rank 1;seen x idle");
        x.day();
        x.tend(0, 0);
        x.image();
        x.seed(9);
        x.say(0);
        CHECK.due("another county", x, Check.tell(x, "county lacks 3 snow 20;sleeper s old in 1 frail 2;sleeper t old in 2 frail 2"), 2, 0);
        int[] sizes = {3, 20, 2, 0, 0, 0, 0, 0, 0, 0, 0, 0, 0, 0};
        for (int what = 0; what < sizes.length; what++) {
            CHECK.due("anew, size(" + what + ")", x.size(what), sizes[what]);
        }
        CHECK.due("anew, harmed()", x.harmed(), 0);
        CHECK.due("anew, sleeper(0, 4)", x.sleeper(0, 4), -2);
        CHECK.due("anew, undo()", x, x.undo(), false, 6);
        CHECK.due("anew, back(0)", x, x.back(0), false, 1);
        CHECK.due("anew, tending()", x.tending(), 0);
        CHECK.due("anew, rows()", x.rows(), 1);
        CHECK.due("anew, fits()", x.fits(), 1);
        CHECK.dueNoSuchElement("anew, led(0)", x, 0);
        // The words of an earlier county leave nothing behind.
        Check.tell(x, ONE + "word w odds 1 minutes 1;word v odds 1 minutes 1");
        CHECK.due("no before is left over", x.word(1, 3), 0);
    }

    private static void faultAndWhereLast() {
        SleepWords x = new SleepWords();
        Check.tell(x, "county lacks 7 snow 500");
        CHECK.due("fault", x.fault(), 4);
        CHECK.due("where", x.where(), 20);
        x.feed(0, 0, 0, 0, 0);
        x.size(3);
        CHECK.due("where behind calls that are never refused", x.where(), 20);
        CHECK.due("county(-1)", x.county(-1), -1);
        CHECK.due("fault stays behind a refusal by 2", x.fault(), 4);
        CHECK.due("where behind a refusal by 2", x.where(), -1);
        x.county(0);
        CHECK.due("where of the next fault", x.where(), 0);
        x.harm();
        CHECK.due("where behind another refusal", x.where(), -1);
        CHECK.due("fault behind another refusal", x.fault(), 1);
        Check.tell(x, ONE.substring(0, ONE.length() - 1));
        CHECK.due("fault behind a county", x.fault(), 0);
        CHECK.due("where behind a county", x.where(), -1);
    }

    private static void told(String text, int sleepers) {
        SleepWords x = new SleepWords();
        CHECK.due("county of: " + text, x, Check.tell(x, text), sleepers, 0);
    }

    private static void faulty(String text, int fault, int where) {
        SleepWords x = new SleepWords();
        CHECK.due("county of: " + text, x, Check.tell(x, text), -1, 4);
        CHECK.due("fault of: " + text, x.fault(), fault);
        CHECK.due("where of: " + text, x.where(), where);
    }

    /** The fault stands at the text's last token, which begins with the mark '@' (taken out). */
    private static void faultyAt(String marked, int fault) {
        int at = marked.indexOf('@');
        faulty(marked.substring(0, at) + marked.substring(at + 1), fault, at);
    }

    private static void wellFormed() {
        told("county lacks 9 snow 0;sleeper s plain in 0 frail 1", 1);
        told("  county lacks9snow100;sleeper s plain in9frail20  ", 1);
        told("county lacks 009 snow 099;sleeper abcdefgh sheep in 000 frail 020", 1);
        // Words that other lines use may be names, and signs and deeds may be any words.
        told(HEAD + "sleeper in plain in 0 frail 1;sleeper plain old in 0 frail 1;awake hands in 0 hands 1 reach 0;"
            + "word odds odds 1 minutes 1;word frail odds 2 minutes 2;before odds frail", 2);
        told(ONE + "order does does does rank 1;order idle does idle rank 1;order county does seen rank 9;"
            + "seen does does does;seen idle idle;seen order idle", 1);
        told(ONE + "order s does s rank 1;seen s does s", 1);
        // What follows by others may be told itself.
        told(ONE + "word a odds 1 minutes 1;word b odds 1 minutes 1;word c odds 1 minutes 1;"
            + "before a b;before b c;before a c", 1);
        told(HEAD + "word a odds 99 minutes 30;sleeper s hardy in 1 frail 1", 1);
    }

    private static void formFaults() {
        faulty("", 1, 0);
        faulty("   ", 1, 3);
        faultyAt("@;county lacks 1 snow 1", 1);
        faultyAt("@7", 1);
        faultyAt("@town", 1);
        faultyAt("@County", 1);
        faultyAt("@bounty lacks 7 snow 50", 1);
        faultyAt("@countz lacks 7 snow 50", 1);
        faultyAt("county@", 1);
        faultyAt("county @7", 1);
        faultyAt("county lacks @snow", 1);
        faultyAt("county lacks @1234 snow 1", 1);
        faultyAt("county lacks 1@.", 1);
        faultyAt("county lacks 1\u0000".replace("\u0000", "@\u0000"), 1);
        faultyAt("county lacks 1@\n snow 1", 1);
        faultyAt("county lacks 1 snow 1 @county", 1);
        faultyAt(HEAD + "@", 1);
        faultyAt(HEAD + "  @;", 1);
        faultyAt(ONE + "@", 1);
        faultyAt(ONE + "   @", 1);
        faultyAt(HEAD + "sleeper s plain in 0 frail 1 @2", 1);
        faultyAt(HEAD + "sleeper @abcdefghi plain in 0 frail 1", 1);
        faultyAt(HEAD + "@sleeperss", 1);
        faultyAt(HEAD + "sleeper s @plains in 0 frail 1", 1);
        faultyAt(HEAD + "sleeper s plain @at 0 frail 1", 1);
        faultyAt(HEAD + "sleeper s plain in @frail 1", 1);
        faultyAt(HEAD + "sleeper s plain in 0 @weak 1", 1);
        faultyAt(HEAD + "sleeper @7 plain in 0 frail 1", 1);
        for (String word : new String[] {"county", "sleeper", "awake", "word", "before", "order", "seen", "does", "idle"}) {
            faultyAt(HEAD + "sleeper @" + word + " plain in 0 frail 1", 1);
            faultyAt(ONE + "awake @" + word, 1);
            faultyAt(ONE + "word @" + word, 1);
            faultyAt(ONE + "before @" + word, 1);
        }
        faultyAt(ONE + "awake a @with", 1);
        faultyAt(ONE + "awake a in 0 @reach 1", 1);
        faultyAt(ONE + "awake a in 0 hands 1 @;", 1);
        faultyAt(ONE + "word a @minutes 1", 1);
        faultyAt(ONE + "word a odds 1 @rank 1", 1);
        faultyAt(ONE + "word a odds 1 minutes 1;before a@", 1);
        faultyAt(ONE + "order @1 does y rank 1", 1);
        faultyAt(ONE + "order x @idle", 1);
        faultyAt(ONE + "order x does @;", 1);
        faultyAt(ONE + "order x does y @1", 1);
        faultyAt(ONE + "seen @;", 1);
        faultyAt(ONE + "seen x @rank", 1);
        faultyAt(ONE + "seen x does@", 1);
        faultyAt(ONE + "seen x idle @does", 1);
    }

    private static void nameFaults() {
        faultyAt(ONE + "before @a b", 2);
        faultyAt(ONE + "before @s", 2);
        faultyAt(ONE + "awake a in 0 hands 1 reach 0;word b odds 1 minutes 1;before b @a", 2);
        faultyAt(ONE + "word b odds 1 minutes 1;before b @c", 2);
        faultyAt(ONE + "order x does y rank 1;word b odds 1 minutes 1;before b @x", 2);
    }

    private static void againFaults() {
        faultyAt("county lacks 1 snow 1;@county lacks 1 snow 1", 3);
        faultyAt(ONE + "@county", 3);
        faultyAt(ONE + "sleeper @s", 3);
        faultyAt(ONE + "awake @s", 3);
        faultyAt(ONE + "word @s", 3);
        faultyAt(ONE + "awake a in 0 hands 1 reach 0;sleeper @a", 3);
        faultyAt(ONE + "awake a in 0 hands 1 reach 0;awake @a", 3);
        faultyAt(ONE + "word w odds 1 minutes 1;word @w", 3);
        faultyAt(ONE + "word w odds 1 minutes 1;sleeper @w", 3);
        faultyAt(ONE + "word a odds 1 minutes 1;before a @a", 3);
        faultyAt(ONE + "word a odds 1 minutes 1;word b odds 1 minutes 1;before a b;before a @b", 3);
        faultyAt(ONE + "order x does y rank 2;order z does y rank 2;order x does z rank @2", 3);
        faultyAt(ONE + "seen x idle;seen y idle;seen @x idle", 3);
    }

    private static void boundFaults() {
        faultyAt("county lacks @0 snow 1", 4);
        faultyAt("county lacks @10 snow 1", 4);
        faultyAt("county lacks 1 snow @101", 4);
        faultyAt(HEAD + "sleeper s plain in @10", 4);
        faultyAt(HEAD + "sleeper s plain in 9 frail @0", 4);
        faultyAt(HEAD + "sleeper s plain in 9 frail @21", 4);
        faultyAt(ONE + "awake a in @10", 4);
        faultyAt(ONE + "awake a in 9 hands @0", 4);
        faultyAt(ONE + "awake a in 9 hands @5", 4);
        faultyAt(ONE + "awake a in 9 hands 4 reach @10", 4);
        faultyAt(ONE + "word a odds @0", 4);
        faultyAt(ONE + "word a odds @100", 4);
        faultyAt(ONE + "word a odds 99 minutes @0", 4);
        faultyAt(ONE + "word a odds 99 minutes @31", 4);
        faultyAt(ONE + "order x does y rank @0", 4);
        faultyAt(ONE + "order x does y rank @10", 4);
    }

    private static String lines(String pattern, int count) {
        StringBuilder text = new StringBuilder();
        for (int i = 0; i < count; i++) {
            text.append(i > 0 ? ";" : "").append(pattern.replace('#', (char) ('a' + i)));
        }
        return text.toString();
    }

    private static void manyFaults() {
        told(HEAD + lines("sleeper # plain in 0 frail 1", 7), 7);
        faultyAt(HEAD + lines("sleeper # plain in 0 frail 1", 7) + ";@sleeper", 5);
        told(ONE + lines("awake # in 0 hands 1 reach 0", 3), 1);
        faultyAt(ONE + lines("awake # in 0 hands 1 reach 0", 3) + ";@awake 7", 5);
        String words = ONE + lines("word # odds 1 minutes 1", 7);
        told(words, 1);
        faultyAt(words + "; @word a", 5);
        String befores = words + ";" + lines("before a #", 7).substring("before a a;".length()) + ";before b c;before b d";
        told(befores, 1);
        faultyAt(befores + ";@before b a", 5);
        told(ONE + lines("order # does x rank 1", 6), 1);
        faultyAt(ONE + lines("order # does x rank 1", 6) + ";@order a", 5);
        told(ONE + lines("seen # idle", 5), 1);
        faultyAt(ONE + lines("seen # idle", 5) + ";@seen a", 5);
    }

    private static void lackFaults() {
        for (String word : new String[] {"sleeper", "awake", "word", "before", "order", "seen"}) {
            faultyAt(" @" + word + " 7", 6);
        }
        faultyAt("county lacks 1 snow 0@", 6);
        faultyAt("county lacks 1 snow 0;awake a in 0 hands 1 reach 0  @", 6);
    }

    private static void ringFaults() {
        String words = ONE + lines("word # odds 1 minutes 1", 4);
        faultyAt(words + ";before a b;before b @a", 7);
        faultyAt(words + ";before a b;before b c;before c d;before d @a", 7);
        faultyAt(words + ";before c d;before a b;before b c;before d @b", 7);
        told(words + ";before c d;before a b;before b c;before a d", 1);
    }

    private static void leftmostAndLeast() {
        // Of two faults the left one; of one place the least number.
        faultyAt("county lacks @0 snow 101;?", 4);
        faultyAt(HEAD + "sleeper s plain in @99 frail 99", 4);
        faultyAt(ONE + "@", 1);
        faultyAt(HEAD + "@", 1);
        faultyAt("county@", 1);
        faultyAt(ONE + lines("awake # in 0 hands 1 reach 0", 3) + ";@awake s", 5);
        faultyAt(ONE + "word a odds 1 minutes 1;word b odds 1 minutes 1;before b a;before a @b;before a a", 7);
        for (String line : new String[] {"sleeper", "sleeper t", "sleeper t old", "sleeper t old in", "sleeper t old in 1", "awake",
            "awake a", "awake a in", "awake a in 1 hands", "awake a in 1 hands 1", "word", "word w", "word w odds", "word w odds 1",
            "before", "order", "order x", "order x does", "order x does y", "order x does y rank", "seen", "seen x", "seen x does"}) {
            faultyAt(ONE + line + "@;county", 1);
        }
    }
}
