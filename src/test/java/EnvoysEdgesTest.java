import java.util.List;

/** The boundary cases of ENVOYS and RESTS and of the promises 37 to 39. */
public final class EnvoysEdgesTest {
    private static final Edges EDGES = new Edges("EnvoysEdgesTest");

    public static void main(String[] args) {
        EDGES.term("III", "ENVOYS: two states send 0 .. 6 each for so much worth", EnvoysEdgesTest::noughtToSix);
        EDGES.term("III", "it goes by envoys, downwards (nothing if none are sent)", EnvoysEdgesTest::downwards);
        EDGES.term("III", "each envoy costs 3", EnvoysEdgesTest::costs);
        EDGES.term("III", "who sends more has 2 besides", EnvoysEdgesTest::twoBesides);
        EDGES.term("III", "REST: a pair by which neither could have more alone", EnvoysEdgesTest::neitherAlone);
        EDGES.promise(37, "What the one (or other, the other one) has by both's envoys (0 .. 6) for so much worth (0 .. 99).", EnvoysEdgesTest::bothSides);
        EDGES.promise(37, "-100: 1 (no COUNTY); 2.", EnvoysEdgesTest::envoysRefused);
        EDGES.promise(38, "How many RESTS.", EnvoysEdgesTest::howManyRests);
        EDGES.promise(38, "NONE: 1 (no COUNTY); 2.", () -> EDGES.bounds("rests()", SleepWords::rests, -1, 0, 99));
        EDGES.promise(39, "The first, by the one's envoys, then the other one's: 10 times and; -2.", EnvoysEdgesTest::firstRest);
        EDGES.promise(39, "NONE: likewise.", () -> EDGES.bounds("rest()", SleepWords::rest, -1, 0, 99));
        EDGES.end(37, 39);
    }

    private static void noughtToSix() {
        EDGES.told("envoys(50, 0, 6)", States::busy, x -> x.envoys(50, 0, 6, false), 0);
        EDGES.told("envoys(50, 0, 6), the other", States::busy, x -> x.envoys(50, 0, 6, true), 50 - 18 + 2);
        EDGES.told("envoys(50, 6, 0)", States::busy, x -> x.envoys(50, 6, 0, false), 50 - 18 + 2);
        EDGES.told("envoys(50, 6, 6)", States::busy, x -> x.envoys(50, 6, 6, false), 25 - 18);
        EDGES.refused("envoys(50, 7, 6)", States::busy, x -> x.envoys(50, 7, 6, false), -100, 2);
        EDGES.refused("envoys(50, 6, -1)", States::busy, x -> x.envoys(50, 6, -1, false), -100, 2);
    }

    private static void downwards() {
        for (int worth : new int[] {0, 1, 99}) {
            EDGES.told("envoys(" + worth + ", 0, 0)", States::busy, x -> x.envoys(worth, 0, 0, false), 0);
            EDGES.told("envoys(" + worth + ", 0, 0), the other", States::busy, x -> x.envoys(worth, 0, 0, true), 0);
        }
        // 2 of 3 of 10 are 6, of 11 are 7, of 12 are 8; 1 of 3 of them 3, 3, 4.
        int[] two = {6, 7, 8};
        int[] one = {3, 3, 4};
        for (int i = 0; i < 3; i++) {
            int worth = 10 + i;
            EDGES.told("envoys(" + worth + ", 2, 1)", States::busy, x -> x.envoys(worth, 2, 1, false), two[i] - 6 + 2);
            EDGES.told("envoys(" + worth + ", 2, 1), the other", States::busy, x -> x.envoys(worth, 2, 1, true), one[i] - 3);
        }
    }

    private static void costs() {
        for (int i = 0; i <= 6; i++) {
            int sent = i;
            EDGES.told("envoys(0, " + sent + ", " + sent + ")", States::busy, x -> x.envoys(0, sent, sent, false), -3 * sent);
            EDGES.told("envoys(0, " + sent + ", 6), the other", States::busy, x -> x.envoys(0, sent, 6, true), sent < 6 ? -16 : -18);
        }
    }

    private static void twoBesides() {
        for (int sent = 0; sent <= 6; sent++) {
            for (int others = 0; others <= 6; others++) {
                SleepWords x = Counties.lean();
                int more = sent > others ? 2 : 0;
                EDGES.due("envoys(0, " + sent + ", " + others + ")", x.envoys(0, sent, others, false), more - 3 * sent);
                EDGES.due("envoys(0, " + others + ", " + sent + "), the other", x.envoys(0, others, sent, true), more - 3 * sent);
            }
        }
    }

    private static int has(int worth, int own, int others) {
        int share = own + others == 0 ? 0 : Math.floorDiv(worth * own, own + others);
        return share - 3 * own + (own > others ? 2 : 0);
    }

    private static boolean couldHaveMore(int worth, int own, int others) {
        for (int instead = 0; instead <= 6; instead++) {
            if (has(worth, instead, others) > has(worth, own, others)) {
                return true;
            }
        }
        return false;
    }

    /** The rests of a worth, as 10 times the one's envoys and the other one's. */
    private static List<Integer> rests(int worth) {
        List<Integer> rests = new java.util.ArrayList<>();
        for (int pair = 0; pair < 49; pair++) {
            if (!couldHaveMore(worth, pair / 7, pair % 7) && !couldHaveMore(worth, pair % 7, pair / 7)) {
                rests.add(10 * (pair / 7) + pair % 7);
            }
        }
        return rests;
    }

    private static void neitherAlone() {
        // As much is not more: of worth 1 one envoy alone has 1 - 3 + 2, nothing, as much as by none.
        EDGES.told("envoys(1, 1, 0)", States::lean, x -> x.envoys(1, 1, 0, false), 0);
        EDGES.told("rest(1)", States::lean, x -> x.rest(1), 0);
        // Of worth 2 it has 1 more than by none.
        EDGES.told("envoys(2, 1, 0)", States::lean, x -> x.envoys(2, 1, 0, false), 1);
        EDGES.told("rest(2)", States::lean, x -> x.rest(2), rests(2).get(0));
        EDGES.due("a rest of worth 1", rests(1).contains(0), true);
        EDGES.due("no rest of worth 2", rests(2).contains(0), false);
        // All six of both are as far as it goes.
        EDGES.told("rest(99)", States::lean, x -> x.rest(99), 66);
        EDGES.told("rests(99)", States::lean, x -> x.rests(99), 1);
    }

    private static void bothSides() {
        EDGES.told("envoys(99, 6, 5)", States::woken, x -> x.envoys(99, 6, 5, false), 54 - 18 + 2);
        EDGES.told("envoys(99, 6, 5), the other", States::woken, x -> x.envoys(99, 6, 5, true), 45 - 15);
        EDGES.told("envoys(0, 0, 0)", States::brim, x -> x.envoys(0, 0, 0, false), 0);
        EDGES.told("envoys(99, 6, 0)", States::brim, x -> x.envoys(99, 6, 0, false), 83);
        EDGES.told("envoys(99, 0, 6), the other", States::brim, x -> x.envoys(99, 0, 6, true), 83);
        EDGES.told("envoys(99, 0, 6)", States::brim, x -> x.envoys(99, 0, 6, false), 0);
        // What a state has may be -1, which is no refusal.
        EDGES.told("envoys(5, 1, 1)", States::lean, x -> x.envoys(5, 1, 1, false), -1);
        EDGES.told("envoys(0, 1, 0)", States::lean, x -> x.envoys(0, 1, 0, false), -1);
    }

    private static void envoysRefused() {
        for (boolean ofOther : new boolean[] {false, true}) {
            EDGES.bounds("envoys(, 0, 0)", (x, worth) -> x.envoys(worth, 0, 0, ofOther), -100, 0, 99);
            EDGES.bounds("envoys(1, , 0)", (x, sent) -> x.envoys(1, sent, 0, ofOther), -100, 0, 6);
            EDGES.bounds("envoys(1, 0, )", (x, sent) -> x.envoys(1, 0, sent, ofOther), -100, 0, 6);
        }
    }

    private static void howManyRests() {
        int[] seen = new int[50];
        for (int worth = 0; worth <= 99; worth++) {
            SleepWords x = Counties.lean();
            EDGES.due("rests(" + worth + ")", x.rests(worth), rests(worth).size());
            EDGES.due("trouble()", x.trouble(), 0);
            seen[rests(worth).size()]++;
        }
        EDGES.due("some have one", seen[1] > 0, true);
        EDGES.due("some have more", seen[2] + seen[3] + seen[4] > 0, true);
        EDGES.told("rests(0), awake", States::woken, x -> x.rests(0), 1);
        EDGES.told("rests(17), none", States::busy, x -> x.rests(17), 0);
        EDGES.told("rests(57), the most", States::busy, x -> x.rests(57), 7);
    }

    private static void firstRest() {
        for (int worth = 0; worth <= 99; worth++) {
            SleepWords x = Counties.lean();
            EDGES.due("rest(" + worth + ")", x.rest(worth), rests(worth).isEmpty() ? -2 : rests(worth).get(0));
            EDGES.due("trouble()", x.trouble(), 0);
        }
        EDGES.told("rest(0), awake", States::woken, x -> x.rest(0), 0);
        EDGES.told("rest(17), none", States::busy, x -> x.rest(17), -2);
        EDGES.told("rest(18), of five", States::busy, x -> x.rest(18), 12);
    }}
