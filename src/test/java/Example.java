/** A county told, asked and acted in. */
public final class Example {
    public static void main(String[] args) {
        SleepWords x = new SleepWords();
        String text = "county lacks 7 snow 50;"
            + "sleeper abe plain in 1 frail 10;sleeper bet old in 4 frail 6;"
            + "awake may in 2 hands 1 reach 2;"
            + "word bee odds 30 minutes 10;word ant odds 20 minutes 5;word cow odds 50 minutes 20;before ant cow;"
            + "order click does bow rank 6;order bell does dance rank 5;seen bell idle";
        feed(x, text);
        System.out.println("sleepers: " + x.county(text.length()));
        System.out.println("seven things are told by " + x.counts(7));
        System.out.println("the harm that may can keep off: " + x.tending() + ", who is left then, as bits: " + x.left());
        System.out.println("the first word to say: " + x.searchAt(0) + ", minutes on the mean: " + x.mean(false) + " by " + x.mean(true));
        System.out.println("sets of orders that fit: " + x.fits());

        System.out.println("may tends bet: " + x.tend(0, 1));
        System.out.println("harm of the day: " + x.day());
        System.out.println("cow ahead of ant: " + x.say(2) + ", trouble " + x.trouble());
        System.out.println("ant wakes them: " + x.say(1) + ", cow wakes them: " + x.say(2));
        System.out.println("undone: " + x.undo() + ", awake: " + x.size(9));

        feed(x, "county lacks 10");
        System.out.println("another county: " + x.county(15) + ", trouble " + x.trouble() + ", fault " + x.fault() + " at " + x.where());
    }

    // Five numbers of four bytes, the highest first; blanks, which mean nothing, fill up the last twenty bytes.
    private static void feed(SleepWords x, String text) {
        String padded = text + " ".repeat(19);
        for (int i = 0; i < text.length(); i += 20) {
            x.feed(four(padded, i), four(padded, i + 4), four(padded, i + 8), four(padded, i + 12), four(padded, i + 16));
        }
    }

    private static int four(String text, int i) {
        return text.charAt(i) << 24 | text.charAt(i + 1) << 16 | text.charAt(i + 2) << 8 | text.charAt(i + 3);
    }
}
