/** Texts that several tests use. */
final class Counties {
    static final String HEAD = "county lacks 7 snow 50;";

    /** Five sleepers of all kinds, two awake, four words, four orders, two seen. */
    static final String FULL = HEAD
        + "sleeper abe plain in 1 frail 10;sleeper bet old in 2 frail 6;sleeper cal hardy in 5 frail 9;"
        + "sleeper ewe sheep in 3 frail 4;sleeper ram sheep in 8 frail 5;"
        + "awake may in 2 hands 2 reach 1;awake joe in 6 hands 1 reach 2;"
        + "word bee odds 30 minutes 10;word ant odds 20 minutes 5;word cow odds 50 minutes 20;word dog odds 10 minutes 2;"
        + "before ant cow;before bee dog;"
        + "order click does look rank 3;order cloth does dance rank 5;order click does bow rank 6;order bell does dance rank 5;"
        + "seen cloth does dance;seen bell idle";

    /** One sleeper, nothing else. */
    static final String LEAN = "county lacks 1 snow 100;sleeper a hardy in 0 frail 1";

    private Counties() {
    }

    static SleepWords full() {
        return Check.of(FULL);
    }

    static SleepWords lean() {
        return Check.of(LEAN);
    }
}
