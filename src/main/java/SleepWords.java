import java.util.NoSuchElementException;

/**
 * A hypnotised province: the county that a text tells, what they count there, who tends whom, which words
 * to say, which orders they may have, envoys, winters, and the acts of the days that go by.
 */
public final class SleepWords {
    public static final int NONE = -1;

    // An answer that isn't refused, and says that there is nobody, none, or that it never is so.
    private static final int ABSENT = -2;
    // What envoys answers when refused: -1 may be what a state has.
    private static final int NO_ENVOYS = -100;

    private static final int GRANTED = 0;
    private static final int NO_SUCH = 1;
    private static final int WRONG_NUMBER = 2;
    private static final int NO_ROOM = 3;
    private static final int FAULTY = 4;
    private static final int NOT_SO = 5;
    private static final int NOTHING_THERE = 6;

    private static final int TAPE_ROOM = 900;
    private static final int FED_BYTES = 20;
    private static final int SLEEPER_ROOM = 7;
    private static final int AWAKE_ROOM = 3;
    private static final int WORD_ROOM = 7;
    private static final int BEFORE_ROOM = 8;
    private static final int ORDER_ROOM = 6;
    private static final int SEEN_ROOM = 5;
    private static final int UNDO_ROOM = 16;
    private static final int IMAGE_ROOM = 3;

    private static final int MOST_THINGS = 99999;
    private static final int MOST_TOLD = 999999;
    private static final int MOST_SUMMAND = 99999;
    private static final int MOST_MINUTES = 300;
    private static final int MOST_ENVOYS = 6;
    private static final int MOST_WORTH = 99;
    private static final int MOST_SEED = 65536;
    private static final int MOST_WINTER_DAYS = 90;
    private static final int MOST_MUCH = 9999;
    private static final int MOST_DAYS = 999;

    private static final int PLAIN = 0;
    private static final int OLD = 1;
    private static final int HARDY = 2;
    private static final int SHEEP = 3;

    private final byte[] tape = new byte[TAPE_ROOM];
    private int tapeLength;
    private int trouble;
    private int fault;
    private int faultPlace;
    private County county = new County();
    // A text is read into this one, so that a FAULT leaves the COUNTY as it was.
    private County spare = new County();
    private final Reader reader = new Reader();
    private final Now now = new Now();
    private final Past past = new Past();
    private final Tending tending = new Tending();
    private final Search search = new Search();
    private final Fits fits = new Fits();

    public SleepWords() {
    }

    // ---- the county

    public int feed(int a, int b, int c, int d, int e) {
        if (tapeLength > TAPE_ROOM - FED_BYTES) {
            return NONE;
        }
        putBytes(a);
        putBytes(b);
        putBytes(c);
        putBytes(d);
        putBytes(e);
        return tapeLength;
    }

    public int county(int n) {
        if (n < 0 || n > tapeLength) {
            return refuse(WRONG_NUMBER);
        }
        reader.read(tape, n, spare);
        tapeLength = 0;
        fault = reader.fault;
        faultPlace = reader.faultPlace;
        if (fault != 0) {
            return refuse(FAULTY);
        }
        County old = county;
        county = spare;
        spare = old;
        now.reset();
        past.reset();
        tending.known = false;
        search.known = false;
        fits.known = false;
        return grant(county.sleepers.count);
    }

    public int fault() {
        return fault;
    }

    public int where() {
        return trouble == FAULTY ? faultPlace : NONE;
    }

    // ---- counting

    public int counts(int things) {
        if (!county.told) {
            return refuse(NO_SUCH);
        }
        if (things < 0 || things > MOST_THINGS) {
            return refuse(WRONG_NUMBER);
        }
        return grant(county.toldFor(things));
    }

    public int really(int told) {
        if (!county.told) {
            return refuse(NO_SUCH);
        }
        if (told < 0 || told > MOST_TOLD) {
            return refuse(WRONG_NUMBER);
        }
        return grant(county.thingsFor(told));
    }

    public int sum(int told, int other) {
        if (!county.told) {
            return refuse(NO_SUCH);
        }
        if (told < 0 || told > MOST_SUMMAND || other < 0 || other > MOST_SUMMAND) {
            return refuse(WRONG_NUMBER);
        }
        int some = county.thingsFor(told);
        int more = county.thingsFor(other);
        if (some == ABSENT || more == ABSENT) {
            return grant(ABSENT);
        }
        return grant(county.toldFor(some + more));
    }

    // ---- sleepers, the awake

    public int sleeper(int s, int what) {
        if (!isSleeper(s)) {
            return refuse(NO_SUCH);
        }
        switch (what) {
            case 0:
                return grant(county.sleepers.kind[s]);
            case 1:
                return grant(county.sleepers.house[s]);
            case 2:
                return grant(county.sleepers.frail[s]);
            case 3:
                return grant(now.harm[s]);
            case 4:
                return grant(now.tender[s]);
            case 5:
                return grant(county.tendersOf(s));
            default:
                return refuse(NO_SUCH);
        }
    }

    public int awake(int a, int what) {
        if (!isHelper(a)) {
            return refuse(NO_SUCH);
        }
        switch (what) {
            case 0:
                return grant(county.helpers.house[a]);
            case 1:
                return grant(county.helpers.hands[a]);
            case 2:
                return grant(county.helpers.reach[a]);
            case 3:
                return grant(now.tendedByOne(a));
            case 4:
                return grant(freeHands(a));
            default:
                return refuse(NO_SUCH);
        }
    }

    public int harmOf(int s) {
        if (!isSleeper(s)) {
            return refuse(NO_SUCH);
        }
        return grant(now.woken ? 0 : county.dayHarm(s, now.tendedBits()));
    }

    public int harm() {
        if (!county.told) {
            return refuse(NO_SUCH);
        }
        return grant(now.woken ? 0 : county.dayHarmOfAll(now.tendedBits()));
    }

    public int harmed() {
        if (!county.told) {
            return refuse(NO_SUCH);
        }
        return grant(now.allHarm());
    }

    public int worst() {
        if (!county.told) {
            return refuse(NO_SUCH);
        }
        int most = 0;
        int who = ABSENT;
        for (int s = 0; s < SLEEPER_ROOM; s++) {
            if (now.harm[s] > most) {
                most = now.harm[s];
                who = s;
            }
        }
        return grant(who);
    }

    public int tending() {
        if (!county.told) {
            return refuse(NO_SUCH);
        }
        tending.learn(county);
        return grant(tending.greatest(tending.allHands));
    }

    public int tendedBy(int s) {
        if (!isSleeper(s)) {
            return refuse(NO_SUCH);
        }
        tending.learn(county);
        return grant(tending.tender[s]);
    }

    public int left() {
        if (!county.told) {
            return refuse(NO_SUCH);
        }
        tending.learn(county);
        return grant(fullBits(county.sleepers.count) & ~tending.tended);
    }

    public int worthOf(int a) {
        if (!isHelper(a)) {
            return refuse(NO_SUCH);
        }
        tending.learn(county);
        int without = tending.allHands - handsAt(a, county.helpers.hands[a]);
        return grant(tending.greatest(tending.allHands) - tending.greatest(without));
    }

    public int bestHand() {
        if (!county.told) {
            return refuse(NO_SUCH);
        }
        tending.learn(county);
        int most = tending.greatest(tending.allHands);
        int who = ABSENT;
        for (int a = 0; a < county.helpers.count; a++) {
            int withOneMore = tending.greatest(tending.allHands + handsAt(a, 1));
            if (withOneMore > most) {
                most = withOneMore;
                who = a;
            }
        }
        return grant(who);
    }

    // ---- words

    public int word(int w, int what) {
        if (!isWord(w)) {
            return refuse(NO_SUCH);
        }
        switch (what) {
            case 0:
                return grant(county.words.odds[w]);
            case 1:
                return grant(county.words.minutes[w]);
            case 2:
                return grant((now.said & bit(w)) != 0 ? 1 : 0);
            case 3:
                return grant(county.words.before[w]);
            default:
                return refuse(NO_SUCH);
        }
    }

    public long chance(int w, boolean lower) {
        if (!isWord(w)) {
            return refuse(NO_SUCH);
        }
        if ((toSay() & bit(w)) == 0) {
            return grantPart(0, 1, lower);
        }
        search.learn(county.words);
        return grantPart(county.words.odds[w], search.oddsOf(toSay()), lower);
    }

    public long mean(boolean lower) {
        if (!county.told) {
            return refuse(NO_SUCH);
        }
        if (toSay() == 0) {
            return grantPart(0, 1, lower);
        }
        search.learn(county.words);
        return grantPart(search.leastCost(toSay()), search.oddsOf(toSay()), lower);
    }

    public int searchAt(int i) {
        if (!county.told || i < 0 || i >= Integer.bitCount(toSay())) {
            return refuse(NO_SUCH);
        }
        search.learn(county.words);
        return grant(search.rowAt(county.words, toSay(), i));
    }

    public long meanFirst(int w, boolean lower) {
        if (!isWord(w)) {
            return refuse(NO_SUCH);
        }
        if (!canSay(w)) {
            return refuse(NOT_SO);
        }
        search.learn(county.words);
        return grantPart(search.costFirst(county.words, toSay(), w), search.oddsOf(toSay()), lower);
    }

    public long within(int minutes, boolean lower) {
        if (!county.told) {
            return refuse(NO_SUCH);
        }
        if (minutes < 0 || minutes > MOST_MINUTES) {
            return refuse(WRONG_NUMBER);
        }
        if (toSay() == 0) {
            return grantPart(0, 1, lower);
        }
        search.learn(county.words);
        int likeliest = search.likeliestIn(toSay(), minutes);
        return grantPart(search.oddsOf(likeliest), search.oddsOf(toSay()), lower);
    }

    public int withinWords(int minutes) {
        if (!county.told) {
            return refuse(NO_SUCH);
        }
        if (minutes < 0 || minutes > MOST_MINUTES) {
            return refuse(WRONG_NUMBER);
        }
        search.learn(county.words);
        return grant(search.likeliestIn(toSay(), minutes));
    }

    public int next() {
        if (!county.told) {
            return refuse(NO_SUCH);
        }
        int bits = 0;
        for (int w = 0; w < county.words.count; w++) {
            if (canSay(w)) {
                bits |= bit(w);
            }
        }
        return grant(bits);
    }

    public int rows() {
        if (!county.told) {
            return refuse(NO_SUCH);
        }
        search.learn(county.words);
        return grant(search.rowsOf(unsaid()));
    }

    // ---- orders

    public int fits() {
        if (!county.told) {
            return refuse(NO_SUCH);
        }
        fits.learn(county.orders);
        return grant(fits.count);
    }

    public int could() {
        if (!county.told) {
            return refuse(NO_SUCH);
        }
        fits.learn(county.orders);
        return grant(fits.inSome);
    }

    public int surely() {
        if (!county.told) {
            return refuse(NO_SUCH);
        }
        fits.learn(county.orders);
        return grant(fits.inAll);
    }

    public int ask() {
        if (!county.told) {
            return refuse(NO_SUCH);
        }
        fits.learn(county.orders);
        return grant(fits.asked);
    }

    public int askLeaves() {
        if (!county.told) {
            return refuse(NO_SUCH);
        }
        fits.learn(county.orders);
        return grant(fits.leaves);
    }

    public int judge() {
        if (!county.told) {
            return refuse(NO_SUCH);
        }
        return grant(county.orders.firstUnlike(fullBits(county.orders.count)));
    }

    public int together(int orders) {
        if (!county.told || orders < 0 || orders > fullBits(county.orders.count)) {
            return refuse(NO_SUCH);
        }
        return grant(county.orders.doneTogether(orders));
    }

    public int clash() {
        if (!county.told) {
            return refuse(NO_SUCH);
        }
        return grant(county.orders.firstClash());
    }

    // ---- envoys

    public int envoys(int worth, int one, int other, boolean ofOther) {
        if (!county.told) {
            refuse(NO_SUCH);
            return NO_ENVOYS;
        }
        if (!isWorth(worth) || one < 0 || one > MOST_ENVOYS || other < 0 || other > MOST_ENVOYS) {
            refuse(WRONG_NUMBER);
            return NO_ENVOYS;
        }
        return grant(ofOther ? gain(worth, other, one) : gain(worth, one, other));
    }

    public int rests(int worth) {
        if (!county.told) {
            return refuse(NO_SUCH);
        }
        if (!isWorth(worth)) {
            return refuse(WRONG_NUMBER);
        }
        int count = 0;
        for (int one = 0; one <= MOST_ENVOYS; one++) {
            for (int other = 0; other <= MOST_ENVOYS; other++) {
                if (isRest(worth, one, other)) {
                    count++;
                }
            }
        }
        return grant(count);
    }

    public int rest(int worth) {
        if (!county.told) {
            return refuse(NO_SUCH);
        }
        if (!isWorth(worth)) {
            return refuse(WRONG_NUMBER);
        }
        for (int one = 0; one <= MOST_ENVOYS; one++) {
            for (int other = 0; other <= MOST_ENVOYS; other++) {
                if (isRest(worth, one, other)) {
                    return grant(10 * one + other);
                }
            }
        }
        return grant(ABSENT);
    }

    // ---- winters

    public int winters(int seed, int n) {
        if (!county.told) {
            return refuse(NO_SUCH);
        }
        if (!isWinter(seed, n)) {
            return refuse(WRONG_NUMBER);
        }
        tending.learn(county);
        return grant(harmfulDays(seed, n) * county.dayHarmOfAll(tending.tended));
    }

    public int wintersOf(int s, int seed, int n) {
        if (!isSleeper(s)) {
            return refuse(NO_SUCH);
        }
        if (!isWinter(seed, n)) {
            return refuse(WRONG_NUMBER);
        }
        tending.learn(county);
        return grant(now.harm[s] + harmfulDays(seed, n) * county.dayHarm(s, tending.tended));
    }

    public int above(int much, int seed, int n) {
        if (!county.told) {
            return refuse(NO_SUCH);
        }
        if (much < 0 || much > MOST_MUCH || !isWinter(seed, n)) {
            return refuse(WRONG_NUMBER);
        }
        tending.learn(county);
        int each = now.woken ? 0 : county.dayHarmOfAll(tending.tended);
        int all = now.allHarm();
        int drawn = seed;
        for (int d = 1; d <= n; d++) {
            drawn = drawAfter(drawn);
            if (drawn % 100 < county.snow) {
                all += each;
            }
            if (all > much) {
                return grant(d);
            }
        }
        return grant(0);
    }

    // ---- acts

    public boolean tend(int a, int s) {
        if (!isHelper(a) || !isSleeper(s)) {
            return deny(NO_SUCH);
        }
        if (now.tender[s] != ABSENT || !county.reaches(a, s) || now.woken) {
            return deny(NOT_SO);
        }
        if (freeHands(a) <= 0) {
            return deny(NO_ROOM);
        }
        past.keep(now);
        now.tender[s] = a;
        return allow();
    }

    public int day() {
        if (!county.told) {
            return refuse(NO_SUCH);
        }
        if (now.day >= MOST_DAYS) {
            return refuse(NO_ROOM);
        }
        if (now.woken) {
            return refuse(NOT_SO);
        }
        past.keep(now);
        int tended = now.tendedBits();
        int done = county.dayHarmOfAll(tended);
        for (int s = 0; s < county.sleepers.count; s++) {
            now.harm[s] += county.dayHarm(s, tended);
        }
        now.tendNobody();
        now.day++;
        return grant(done);
    }

    public int say(int w) {
        if (!isWord(w)) {
            return refuse(NO_SUCH);
        }
        if (!canSay(w)) {
            return refuse(NOT_SO);
        }
        search.learn(county.words);
        int odds = search.oddsOf(toSay());
        past.keep(now);
        now.seed = drawAfter(now.seed);
        now.woken = odds > 0 && now.seed % odds < county.words.odds[w];
        now.said |= bit(w);
        return grant(now.woken ? 1 : 0);
    }

    public boolean seed(int v) {
        if (!county.told) {
            return deny(NO_SUCH);
        }
        if (v < 0 || v > MOST_SEED) {
            return deny(WRONG_NUMBER);
        }
        now.seed = v;
        return allow();
    }

    public boolean undo() {
        if (past.count <= 0) {
            return deny(NOTHING_THERE);
        }
        past.takeBack(now);
        return allow();
    }

    public int image() {
        if (!county.told) {
            return refuse(NO_SUCH);
        }
        if (past.imageCount >= IMAGE_ROOM) {
            return refuse(NO_ROOM);
        }
        return grant(past.keepImage(now));
    }

    public boolean back(int image) {
        if (image < 0 || image >= past.imageCount) {
            return deny(NO_SUCH);
        }
        past.goBack(now, image);
        return allow();
    }

    // ---- what is told

    public int led(int i) throws NoSuchElementException {
        if (i < 0 || i >= Integer.bitCount(now.said)) {
            throw new NoSuchElementException("no such word was said");
        }
        int ahead = i;
        for (int w = 0; w < WORD_ROOM; w++) {
            if ((now.said & bit(w)) != 0) {
                if (ahead == 0) {
                    return w;
                }
                ahead--;
            }
        }
        throw new NoSuchElementException("no such word was said");
    }

    public int size(int what) {
        switch (what) {
            case 0:
                return county.lacks;
            case 1:
                return county.snow;
            case 2:
                return county.sleepers.count;
            case 3:
                return county.helpers.count;
            case 4:
                return county.words.count;
            case 5:
                return county.words.befores;
            case 6:
                return county.orders.count;
            case 7:
                return county.orders.seenCount;
            case 8:
                return now.day;
            case 9:
                return now.woken ? 1 : 0;
            case 10:
                return now.seed;
            case 11:
                return past.count;
            case 12:
                return past.imageCount;
            case 13:
                return tapeLength;
            default:
                return NONE;
        }
    }

    public int trouble() {
        return trouble;
    }

    // ---- what the calls share

    private int refuse(int why) {
        trouble = why;
        return NONE;
    }

    private int grant(int answer) {
        trouble = GRANTED;
        return answer;
    }

    private boolean deny(int why) {
        trouble = why;
        return false;
    }

    private boolean allow() {
        trouble = GRANTED;
        return true;
    }

    private long grantPart(int upper, int under, boolean lower) {
        trouble = GRANTED;
        int common = commonDivisor(upper, under);
        if (common <= 0) {
            return lower ? 1 : 0;
        }
        return (lower ? under : upper) / common;
    }

    private void putBytes(int number) {
        for (int shift = 24; shift >= 0; shift -= 8) {
            if (tapeLength < TAPE_ROOM) {
                tape[tapeLength] = (byte) (number >> shift);
                tapeLength++;
            }
        }
    }

    private boolean isSleeper(int s) {
        return s >= 0 && s < county.sleepers.count;
    }

    private boolean isHelper(int a) {
        return a >= 0 && a < county.helpers.count;
    }

    private boolean isWord(int w) {
        return w >= 0 && w < county.words.count;
    }

    private int freeHands(int a) {
        return county.helpers.hands[a] - Integer.bitCount(now.tendedByOne(a));
    }

    private int unsaid() {
        return fullBits(county.words.count) & ~now.said;
    }

    // SEARCH has no word once they are awake, as nothing more is said then; rows() alone counts all the same.
    private int toSay() {
        return now.woken ? 0 : unsaid();
    }

    private boolean canSay(int w) {
        return (toSay() & bit(w)) != 0 && (county.words.before[w] & ~now.said) == 0;
    }

    private int harmfulDays(int seed, int n) {
        if (now.woken) {
            return 0;
        }
        int count = 0;
        int drawn = seed;
        for (int d = 0; d < n; d++) {
            drawn = drawAfter(drawn);
            if (drawn % 100 < county.snow) {
                count++;
            }
        }
        return count;
    }

    private static boolean isWinter(int seed, int n) {
        return seed >= 0 && seed <= MOST_SEED && n >= 0 && n <= MOST_WINTER_DAYS;
    }

    private static boolean isWorth(int worth) {
        return worth >= 0 && worth <= MOST_WORTH;
    }

    private static int gain(int worth, int own, int others) {
        int sent = own + others;
        int share = sent > 0 ? worth * own / sent : 0;
        return share - 3 * own + (own > others ? 2 : 0);
    }

    private static boolean isRest(int worth, int one, int other) {
        int ofOne = gain(worth, one, other);
        int ofOther = gain(worth, other, one);
        for (int instead = 0; instead <= MOST_ENVOYS; instead++) {
            if (gain(worth, instead, other) > ofOne || gain(worth, instead, one) > ofOther) {
                return false;
            }
        }
        return true;
    }

    private static int drawAfter(int seed) {
        return (75 * seed + 74) % 65537;
    }

    private static int commonDivisor(int one, int other) {
        int a = one;
        int b = other;
        // What is over halves in two steps at least, so an int is spent long before these are.
        for (int step = 0; step < 64 && b > 0; step++) {
            int over = a % b;
            a = b;
            b = over;
        }
        return a;
    }

    private static int bit(int i) {
        return 1 << i;
    }

    private static int fullBits(int count) {
        return (1 << count) - 1;
    }

    // Hands of all the awake are one number of three bits each, for up to five hands (one more than told).
    private static int handsAt(int a, int hands) {
        return hands << 3 * a;
    }

    /** The sleepers as told. */
    private static final class Sleepers {
        int count;
        final long[] name = new long[SLEEPER_ROOM];
        final int[] kind = new int[SLEEPER_ROOM];
        final int[] house = new int[SLEEPER_ROOM];
        final int[] frail = new int[SLEEPER_ROOM];

        // What one weighs when nobody tends it and no other sheep is tended.
        int weight(int s) {
            switch (kind[s]) {
                case OLD:
                    return 2 * frail[s];
                case HARDY:
                    return frail[s] / 2;
                default:
                    return frail[s];
            }
        }

        boolean anySheep(int bits) {
            for (int s = 0; s < count; s++) {
                if (kind[s] == SHEEP && (bits & bit(s)) != 0) {
                    return true;
                }
            }
            return false;
        }
    }

    /** The awake as told. */
    private static final class Helpers {
        int count;
        final long[] name = new long[AWAKE_ROOM];
        final int[] house = new int[AWAKE_ROOM];
        final int[] hands = new int[AWAKE_ROOM];
        final int[] reach = new int[AWAKE_ROOM];
    }

    /** The words as told, and which must come before which. */
    private static final class Words {
        int count;
        int befores;
        final long[] name = new long[WORD_ROOM];
        final int[] odds = new int[WORD_ROOM];
        final int[] minutes = new int[WORD_ROOM];
        // Of each word those told to come before it by a line of their own, as bits.
        final int[] toldBefore = new int[WORD_ROOM];
        // Likewise, by others too.
        final int[] before = new int[WORD_ROOM];

        int find(long sought) {
            for (int w = 0; w < count; w++) {
                if (name[w] == sought) {
                    return w;
                }
            }
            return NONE;
        }

        void putBefore(int first, int second) {
            toldBefore[second] |= bit(first);
            int ahead = before[first] | bit(first);
            for (int w = 0; w < count; w++) {
                if (w == second || (before[w] & bit(second)) != 0) {
                    before[w] |= ahead;
                }
            }
            befores++;
        }
    }

    /** The orders as told, and what was seen. */
    private static final class Orders {
        // What they do when idle: no WORD is packed to it.
        static final long IDLE = 0;

        int count;
        final long[] sign = new long[ORDER_ROOM];
        final long[] deed = new long[ORDER_ROOM];
        final int[] rank = new int[ORDER_ROOM];
        int seenCount;
        final long[] seenSign = new long[SEEN_ROOM];
        final long[] seenDeed = new long[SEEN_ROOM];

        boolean hasRank(long ofSign, int sought) {
            for (int o = 0; o < count; o++) {
                if (sign[o] == ofSign && rank[o] == sought) {
                    return true;
                }
            }
            return false;
        }

        boolean wasSeen(long sought) {
            for (int i = 0; i < seenCount; i++) {
                if (seenSign[i] == sought) {
                    return true;
                }
            }
            return false;
        }

        long deedBy(long shown, int set) {
            long done = IDLE;
            int highest = 0;
            for (int o = 0; o < count; o++) {
                if ((set & bit(o)) != 0 && sign[o] == shown && rank[o] > highest) {
                    highest = rank[o];
                    done = deed[o];
                }
            }
            return done;
        }

        // The first seen that isn't so by a set of orders.
        int firstUnlike(int set) {
            for (int i = 0; i < seenCount; i++) {
                if (deedBy(seenSign[i], set) != seenDeed[i]) {
                    return i;
                }
            }
            return ABSENT;
        }

        boolean isFirstOfSign(int order) {
            for (int o = 0; o < order; o++) {
                if (sign[o] == sign[order]) {
                    return false;
                }
            }
            return true;
        }

        int firstOfDeed(long shown, long done) {
            for (int o = 0; o < count; o++) {
                if (sign[o] == shown && deed[o] == done) {
                    return o;
                }
            }
            return NONE;
        }

        private boolean isShown(long sought, int shown) {
            for (int o = 0; o < count; o++) {
                if ((shown & bit(o)) != 0 && sign[o] == sought) {
                    return true;
                }
            }
            return false;
        }

        int doneTogether(int shown) {
            int done = ABSENT;
            int highest = 0;
            for (int o = 0; o < count; o++) {
                if (rank[o] >= highest && isShown(sign[o], shown)) {
                    highest = rank[o];
                    done = o;
                }
            }
            return done;
        }

        int firstClash() {
            for (int o = 0; o < count; o++) {
                for (int p = o + 1; p < count; p++) {
                    if (sign[o] == sign[p] && deed[o] != deed[p]) {
                        return 10 * o + p;
                    }
                }
            }
            return ABSENT;
        }
    }

    /** A COUNTY as told; nothing in it changes once its text has been read. */
    private static final class County {
        boolean told;
        int lacks;
        int snow;
        final Sleepers sleepers = new Sleepers();
        final Helpers helpers = new Helpers();
        final Words words = new Words();
        final Orders orders = new Orders();

        void clear() {
            told = false;
            lacks = 0;
            snow = 0;
            sleepers.count = 0;
            helpers.count = 0;
            words.count = 0;
            words.befores = 0;
            orders.count = 0;
            orders.seenCount = 0;
        }

        boolean hasName(long sought) {
            for (int s = 0; s < sleepers.count; s++) {
                if (sleepers.name[s] == sought) {
                    return true;
                }
            }
            for (int a = 0; a < helpers.count; a++) {
                if (helpers.name[a] == sought) {
                    return true;
                }
            }
            return words.find(sought) != NONE;
        }

        // The numbers without the digit are those in base nine, the digits from the lacking one on put up by one.
        int toldFor(int things) {
            int answer = 0;
            int scale = 1;
            for (int over = things; over > 0; over /= 9) {
                int digit = over % 9;
                answer += (digit >= lacks ? digit + 1 : digit) * scale;
                scale *= 10;
            }
            return answer;
        }

        int thingsFor(int number) {
            int things = 0;
            int scale = 1;
            for (int over = number; over > 0; over /= 10) {
                int digit = over % 10;
                if (digit == lacks) {
                    return ABSENT;
                }
                things += (digit > lacks ? digit - 1 : digit) * scale;
                scale *= 9;
            }
            return things;
        }

        boolean reaches(int a, int s) {
            return Math.abs(helpers.house[a] - sleepers.house[s]) <= helpers.reach[a];
        }

        int tendersOf(int s) {
            int bits = 0;
            for (int a = 0; a < helpers.count; a++) {
                if (reaches(a, s)) {
                    bits |= bit(a);
                }
            }
            return bits;
        }

        int dayHarm(int s, int tended) {
            if ((tended & bit(s)) != 0) {
                return 0;
            }
            if (sleepers.kind[s] == SHEEP && sleepers.anySheep(tended)) {
                return 0;
            }
            return sleepers.weight(s);
        }

        int dayHarmOfAll(int tended) {
            int all = 0;
            for (int s = 0; s < sleepers.count; s++) {
                all += dayHarm(s, tended);
            }
            return all;
        }
    }

    /** Reads a text into a COUNTY, up to its first FAULT. */
    private static final class Reader {
        private static final int FORM = 1;
        private static final int UNTOLD = 2;
        private static final int AGAIN = 3;
        private static final int BOUNDS = 4;
        private static final int MANY = 5;
        private static final int LACKS = 6;
        private static final int RING = 7;

        private static final int END = 0;
        private static final int WORD = 1;
        private static final int WHOLE = 2;
        private static final int PART = 3;
        private static final int NO_TOKEN = 4;

        private static final int MOST_LETTERS = 8;
        private static final int MOST_DIGITS = 3;

        private byte[] text;
        private int length;
        private County into;
        // Behind the TOKEN that is looked at.
        private int place;
        private int start;
        private int sort;
        private long letters;
        private int number;
        int fault;
        int faultPlace;

        void read(byte[] bytes, int n, County county) {
            text = bytes;
            length = n;
            into = county;
            into.clear();
            place = 0;
            fault = 0;
            faultPlace = NONE;
            advance();
            // Each LINE takes a byte at least, so there are no more than bytes.
            for (int i = 0; i <= length; i++) {
                if (!takeLine()) {
                    return;
                }
                if (sort != PART) {
                    break;
                }
                advance();
            }
            if (sort != END) {
                fail(FORM);
            } else if (into.sleepers.count == 0) {
                fail(LACKS);
            }
        }

        private boolean fail(int which) {
            fault = which;
            faultPlace = start;
            return false;
        }

        private void advance() {
            while (place < length && text[place] == ' ') {
                place++;
            }
            start = place;
            if (place >= length) {
                sort = END;
            } else if (isLetter(text[place])) {
                advanceWord();
            } else if (isDigit(text[place])) {
                advanceWhole();
            } else {
                sort = text[place] == ';' ? PART : NO_TOKEN;
                place++;
            }
        }

        private void advanceWord() {
            letters = 0;
            while (place < length && isLetter(text[place])) {
                letters = letters << 5 | (text[place] - 'a' + 1);
                place++;
            }
            sort = place - start <= MOST_LETTERS ? WORD : NO_TOKEN;
        }

        private void advanceWhole() {
            number = 0;
            while (place < length && isDigit(text[place])) {
                number = 10 * number + (text[place] - '0');
                place++;
            }
            sort = place - start <= MOST_DIGITS ? WHOLE : NO_TOKEN;
        }

        private static boolean isLetter(byte b) {
            return b >= 'a' && b <= 'z';
        }

        private static boolean isDigit(byte b) {
            return b >= '0' && b <= '9';
        }

        private boolean spells(String keyword) {
            if (sort != WORD || place - start != keyword.length()) {
                return false;
            }
            for (int i = 0; i < keyword.length(); i++) {
                if (text[start + i] != keyword.charAt(i)) {
                    return false;
                }
            }
            return true;
        }

        private boolean isReserved() {
            return spells("county") || spells("sleeper") || spells("awake") || spells("word") || spells("before")
                || spells("order") || spells("seen") || spells("does") || spells("idle");
        }

        private boolean takeLine() {
            if (spells("county")) {
                return takeCounty();
            }
            if (spells("sleeper")) {
                return begin(into.sleepers.count, SLEEPER_ROOM) && takeSleeper();
            }
            if (spells("awake")) {
                return begin(into.helpers.count, AWAKE_ROOM) && takeHelper();
            }
            if (spells("word")) {
                return begin(into.words.count, WORD_ROOM) && takeWordLine();
            }
            if (spells("before")) {
                return begin(into.words.befores, BEFORE_ROOM) && takeBefore();
            }
            if (spells("order")) {
                return begin(into.orders.count, ORDER_ROOM) && takeOrder();
            }
            if (spells("seen")) {
                return begin(into.orders.seenCount, SEEN_ROOM) && takeSeen();
            }
            return fail(FORM);
        }

        private boolean begin(int count, int room) {
            if (!into.told) {
                return fail(LACKS);
            }
            if (count >= room) {
                return fail(MANY);
            }
            advance();
            return true;
        }

        private boolean takeKeyword(String keyword) {
            if (!spells(keyword)) {
                return fail(FORM);
            }
            advance();
            return true;
        }

        private boolean isNumber(int low, int high) {
            if (sort != WHOLE) {
                return fail(FORM);
            }
            return number >= low && number <= high || fail(BOUNDS);
        }

        private boolean isNewName() {
            if (sort != WORD || isReserved()) {
                return fail(FORM);
            }
            return !into.hasName(letters) || fail(AGAIN);
        }

        private boolean takeCounty() {
            if (into.told) {
                return fail(AGAIN);
            }
            advance();
            if (!takeKeyword("lacks") || !isNumber(1, 9)) {
                return false;
            }
            into.lacks = number;
            advance();
            if (!takeKeyword("snow") || !isNumber(0, 100)) {
                return false;
            }
            into.snow = number;
            advance();
            into.told = true;
            return true;
        }

        private boolean takeSleeper() {
            Sleepers sleepers = into.sleepers;
            int s = sleepers.count;
            if (!isNewName()) {
                return false;
            }
            sleepers.name[s] = letters;
            advance();
            int kind = kindSpelt();
            if (kind == NONE) {
                return fail(FORM);
            }
            sleepers.kind[s] = kind;
            advance();
            if (!takeKeyword("in") || !isNumber(0, 9)) {
                return false;
            }
            sleepers.house[s] = number;
            advance();
            if (!takeKeyword("frail") || !isNumber(1, 20)) {
                return false;
            }
            sleepers.frail[s] = number;
            advance();
            sleepers.count++;
            return true;
        }

        private int kindSpelt() {
            if (spells("plain")) {
                return PLAIN;
            }
            if (spells("old")) {
                return OLD;
            }
            if (spells("hardy")) {
                return HARDY;
            }
            return spells("sheep") ? SHEEP : NONE;
        }

        private boolean takeHelper() {
            Helpers helpers = into.helpers;
            int a = helpers.count;
            if (!isNewName()) {
                return false;
            }
            helpers.name[a] = letters;
            advance();
            if (!takeKeyword("in") || !isNumber(0, 9)) {
                return false;
            }
            helpers.house[a] = number;
            advance();
            if (!takeKeyword("hands") || !isNumber(1, 4)) {
                return false;
            }
            helpers.hands[a] = number;
            advance();
            if (!takeKeyword("reach") || !isNumber(0, 9)) {
                return false;
            }
            helpers.reach[a] = number;
            advance();
            helpers.count++;
            return true;
        }

        private boolean takeWordLine() {
            Words words = into.words;
            int w = words.count;
            if (!isNewName()) {
                return false;
            }
            words.name[w] = letters;
            advance();
            if (!takeKeyword("odds") || !isNumber(1, 99)) {
                return false;
            }
            words.odds[w] = number;
            advance();
            if (!takeKeyword("minutes") || !isNumber(1, 30)) {
                return false;
            }
            words.minutes[w] = number;
            advance();
            words.toldBefore[w] = 0;
            words.before[w] = 0;
            words.count++;
            return true;
        }

        private boolean isToldWord() {
            if (sort != WORD || isReserved()) {
                return fail(FORM);
            }
            return into.words.find(letters) != NONE || fail(UNTOLD);
        }

        private boolean takeBefore() {
            Words words = into.words;
            if (!isToldWord()) {
                return false;
            }
            int first = words.find(letters);
            advance();
            if (!isToldWord()) {
                return false;
            }
            int second = words.find(letters);
            if (second == first || (words.toldBefore[second] & bit(first)) != 0) {
                return fail(AGAIN);
            }
            if ((words.before[first] & bit(second)) != 0) {
                return fail(RING);
            }
            words.putBefore(first, second);
            advance();
            return true;
        }

        private boolean takeOrder() {
            Orders orders = into.orders;
            int o = orders.count;
            if (sort != WORD) {
                return fail(FORM);
            }
            orders.sign[o] = letters;
            advance();
            if (!takeKeyword("does")) {
                return false;
            }
            if (sort != WORD) {
                return fail(FORM);
            }
            orders.deed[o] = letters;
            advance();
            if (!takeKeyword("rank") || !isNumber(1, 9)) {
                return false;
            }
            if (orders.hasRank(orders.sign[o], number)) {
                return fail(AGAIN);
            }
            orders.rank[o] = number;
            advance();
            orders.count++;
            return true;
        }

        private boolean takeSeen() {
            Orders orders = into.orders;
            int i = orders.seenCount;
            if (sort != WORD) {
                return fail(FORM);
            }
            if (orders.wasSeen(letters)) {
                return fail(AGAIN);
            }
            orders.seenSign[i] = letters;
            orders.seenDeed[i] = Orders.IDLE;
            advance();
            if (!spells("idle")) {
                if (!takeKeyword("does")) {
                    return false;
                }
                if (sort != WORD) {
                    return fail(FORM);
                }
                orders.seenDeed[i] = letters;
            }
            advance();
            orders.seenCount++;
            return true;
        }
    }

    /** What ACTS change. */
    private static final class Now {
        int day;
        int seed;
        int said;
        boolean woken;
        final int[] harm = new int[SLEEPER_ROOM];
        final int[] tender = new int[SLEEPER_ROOM];

        void reset() {
            day = 0;
            seed = 0;
            said = 0;
            woken = false;
            for (int s = 0; s < SLEEPER_ROOM; s++) {
                harm[s] = 0;
            }
            tendNobody();
        }

        void tendNobody() {
            for (int s = 0; s < SLEEPER_ROOM; s++) {
                tender[s] = ABSENT;
            }
        }

        void copyFrom(Now other) {
            day = other.day;
            seed = other.seed;
            said = other.said;
            woken = other.woken;
            for (int s = 0; s < SLEEPER_ROOM; s++) {
                harm[s] = other.harm[s];
                tender[s] = other.tender[s];
            }
        }

        int tendedBits() {
            int bits = 0;
            for (int s = 0; s < SLEEPER_ROOM; s++) {
                if (tender[s] != ABSENT) {
                    bits |= bit(s);
                }
            }
            return bits;
        }

        int tendedByOne(int a) {
            int bits = 0;
            for (int s = 0; s < SLEEPER_ROOM; s++) {
                if (tender[s] == a) {
                    bits |= bit(s);
                }
            }
            return bits;
        }

        int allHarm() {
            int all = 0;
            for (int s = 0; s < SLEEPER_ROOM; s++) {
                all += harm[s];
            }
            return all;
        }
    }

    /** What was ahead of the latest ACTS, the oldest written over, and the IMAGES. */
    private static final class Past {
        private final Now[] kept = new Now[UNDO_ROOM];
        private int top;
        int count;
        private final Now[] images = new Now[IMAGE_ROOM];
        int imageCount;

        Past() {
            for (int i = 0; i < UNDO_ROOM; i++) {
                kept[i] = new Now();
            }
            for (int i = 0; i < IMAGE_ROOM; i++) {
                images[i] = new Now();
            }
        }

        void reset() {
            count = 0;
            imageCount = 0;
        }

        void keep(Now now) {
            kept[top].copyFrom(now);
            top = (top + 1) % UNDO_ROOM;
            count = Math.min(count + 1, UNDO_ROOM);
        }

        void takeBack(Now now) {
            top = (top + UNDO_ROOM - 1) % UNDO_ROOM;
            count--;
            now.copyFrom(kept[top]);
        }

        int keepImage(Now now) {
            images[imageCount].copyFrom(now);
            imageCount++;
            return imageCount - 1;
        }

        void goBack(Now now, int image) {
            now.copyFrom(images[image]);
            count = 0;
        }
    }

    /** TENDING: of each number of hands left, the most that the sleepers from one on can be tended for. */
    private static final class Tending {
        // Above three times five hands, three bits each.
        private static final int STATES = 366;

        boolean known;
        int allHands;
        int tended;
        final int[] tender = new int[SLEEPER_ROOM];
        private final int[] best = new int[(SLEEPER_ROOM + 1) * STATES];

        void learn(County county) {
            if (known) {
                return;
            }
            allHands = 0;
            int oneMoreEach = 0;
            for (int a = 0; a < county.helpers.count; a++) {
                allHands += handsAt(a, county.helpers.hands[a]);
                oneMoreEach += handsAt(a, county.helpers.hands[a] + 1);
            }
            int count = county.sleepers.count;
            for (int state = 0; state <= oneMoreEach; state++) {
                best[count * STATES + state] = 0;
            }
            for (int s = count - 1; s >= 0; s--) {
                for (int state = 0; state <= oneMoreEach; state++) {
                    best[s * STATES + state] = bestOf(county, s, state);
                }
            }
            follow(county);
            known = true;
        }

        int greatest(int hands) {
            return best[hands];
        }

        private int bestOf(County county, int s, int state) {
            int most = best[(s + 1) * STATES + state];
            for (int a = 0; a < county.helpers.count; a++) {
                if (canTake(county, a, s, state)) {
                    most = Math.max(most, tendedFor(county, a, s, state));
                }
            }
            return most;
        }

        private static boolean canTake(County county, int a, int s, int state) {
            return (state >> 3 * a & 7) > 0 && county.reaches(a, s);
        }

        private int tendedFor(County county, int a, int s, int state) {
            return county.sleepers.weight(s) + best[(s + 1) * STATES + state - handsAt(a, 1)];
        }

        // The first by sleepers' awake: each takes the first awake one that keeps the sum the greatest.
        private void follow(County county) {
            int state = allHands;
            tended = 0;
            for (int s = 0; s < county.sleepers.count; s++) {
                tender[s] = ABSENT;
                for (int a = 0; a < county.helpers.count; a++) {
                    if (tender[s] == ABSENT && canTake(county, a, s, state)
                        && tendedFor(county, a, s, state) == best[s * STATES + state]) {
                        tender[s] = a;
                    }
                }
                if (tender[s] != ABSENT) {
                    state -= handsAt(tender[s], 1);
                    tended |= bit(s);
                }
            }
        }
    }

    /** SEARCH: of each set of words, as bits, what its best row costs if it is what is left. */
    private static final class Search {
        private static final int SETS = 128;

        boolean known;
        private final int[] odds = new int[SETS];
        private final int[] minutes = new int[SETS];
        private final int[] needs = new int[SETS];
        // Minutes till the right word is said, times odds, added up: the least.
        private final int[] cost = new int[SETS];
        private final int[] rows = new int[SETS];

        void learn(Words words) {
            if (known) {
                return;
            }
            rows[0] = 1;
            for (int set = 1; set <= fullBits(words.count); set++) {
                addUp(words, set);
                weigh(words, set);
            }
            known = true;
        }

        private void addUp(Words words, int set) {
            int w = Integer.numberOfTrailingZeros(set);
            int others = set & ~bit(w);
            odds[set] = odds[others] + words.odds[w];
            minutes[set] = minutes[others] + words.minutes[w];
            needs[set] = needs[others] | words.before[w];
        }

        private void weigh(Words words, int set) {
            int least = NONE;
            int count = 0;
            for (int w = 0; w < words.count; w++) {
                if (canBegin(words, set, w)) {
                    int mine = costFirst(words, set, w);
                    least = least == NONE || mine < least ? mine : least;
                    count += rows[set & ~bit(w)];
                }
            }
            cost[set] = least;
            rows[set] = count;
        }

        private static boolean canBegin(Words words, int set, int w) {
            return (set & bit(w)) != 0 && (words.before[w] & set) == 0;
        }

        // All that are left, the first one too, wait for the minutes of the first.
        int costFirst(Words words, int set, int w) {
            return words.minutes[w] * odds[set] + cost[set & ~bit(w)];
        }

        int oddsOf(int set) {
            return odds[set];
        }

        int leastCost(int set) {
            return cost[set];
        }

        int rowsOf(int set) {
            return rows[set];
        }

        int rowAt(Words words, int set, int i) {
            int remaining = set;
            int first = NONE;
            for (int step = 0; step <= i; step++) {
                first = firstOfBest(words, remaining);
                if (first == NONE) {
                    return NONE;
                }
                remaining &= ~bit(first);
            }
            return first;
        }

        private int firstOfBest(Words words, int set) {
            for (int w = 0; w < words.count; w++) {
                if (canBegin(words, set, w) && costFirst(words, set, w) == cost[set]) {
                    return w;
                }
            }
            return NONE;
        }

        int likeliestIn(int unsaid, int most) {
            int likeliest = 0;
            for (int set = 1; set <= unsaid; set++) {
                boolean can = (set & ~unsaid) == 0 && (needs[set] & unsaid & ~set) == 0;
                if (can && minutes[set] <= most && odds[set] > odds[likeliest]) {
                    likeliest = set;
                }
            }
            return likeliest;
        }
    }

    /** FITS and ASK. */
    private static final class Fits {
        boolean known;
        int count;
        int inSome;
        int inAll;
        int asked;
        int leaves;
        private final boolean[] fitting = new boolean[1 << ORDER_ROOM];
        // How many sets are left for each deed, by its first order; behind all of them, for idle.
        private final int[] parts = new int[ORDER_ROOM + 1];

        void learn(Orders orders) {
            if (known) {
                return;
            }
            count = 0;
            inSome = 0;
            inAll = fullBits(orders.count);
            for (int set = 0; set <= fullBits(orders.count); set++) {
                fitting[set] = orders.firstUnlike(set) == ABSENT;
                if (fitting[set]) {
                    count++;
                    inSome |= set;
                    inAll &= set;
                }
            }
            if (count == 0) {
                inAll = 0;
            }
            chooseSign(orders);
            known = true;
        }

        private void chooseSign(Orders orders) {
            asked = ABSENT;
            leaves = ABSENT;
            if (count == 0) {
                return;
            }
            for (int o = 0; o < orders.count; o++) {
                if (orders.isFirstOfSign(o) && !orders.wasSeen(orders.sign[o])) {
                    int most = mostLeft(orders, orders.sign[o]);
                    if (asked == ABSENT || most < leaves) {
                        asked = o;
                        leaves = most;
                    }
                }
            }
        }

        private int mostLeft(Orders orders, long shown) {
            for (int p = 0; p <= ORDER_ROOM; p++) {
                parts[p] = 0;
            }
            for (int set = 0; set <= fullBits(orders.count); set++) {
                if (fitting[set]) {
                    int first = orders.firstOfDeed(shown, orders.deedBy(shown, set));
                    parts[first == NONE ? ORDER_ROOM : first]++;
                }
            }
            int most = 0;
            for (int p = 0; p <= ORDER_ROOM; p++) {
                most = Math.max(most, parts[p]);
            }
            return most;
        }
    }
}
