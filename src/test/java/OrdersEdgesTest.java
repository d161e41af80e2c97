import java.util.List;
import java.util.function.Supplier;

/** The boundary cases of FITS, ASK and TOGETHER and of the promises 29 to 36: orders. */
public final class OrdersEdgesTest {
    private static final Edges EDGES = new Edges("OrdersEdgesTest");
    private static final String ONE = Counties.HEAD + "sleeper s plain in 0 frail 1;";

    public static void main(String[] args) {
        terms();
        EDGES.promise(29, "FITS: how many sets.", OrdersEdgesTest::howManySets);
        EDGES.promise(29, "NONE: 1 (no COUNTY).", () -> EDGES.needsCounty("fits()", SleepWords::fits, -1));
        EDGES.promise(30, "Orders that are in some, as bits.", OrdersEdgesTest::inSome);
        EDGES.promise(30, "NONE: 1 (no COUNTY).", () -> EDGES.needsCounty("could()", SleepWords::could, -1));
        EDGES.promise(31, "Orders that are in all (0, if there are no sets), as bits.", OrdersEdgesTest::inAll);
        EDGES.promise(31, "NONE: 1 (no COUNTY).", () -> EDGES.needsCounty("surely()", SleepWords::surely, -1));
        EDGES.promise(32, "ASK: the first order that tells of that sign", OrdersEdgesTest::firstOrderOfSign);
        EDGES.promise(32, "-2 all signs were seen, no set", OrdersEdgesTest::nothingToAsk);
        EDGES.promise(32, "NONE: 1 (no COUNTY).", () -> EDGES.needsCounty("ask()", SleepWords::ask, -1));
        EDGES.promise(33, "How many are left at most then; -2 likewise.", OrdersEdgesTest::leftAtMost);
        EDGES.promise(33, "NONE: 1 (no COUNTY).", () -> EDGES.needsCounty("askLeaves()", SleepWords::askLeaves, -1));
        EDGES.promise(34, "The first seen, as told, that isn't so by all orders; -2.", OrdersEdgesTest::notSo);
        EDGES.promise(34, "NONE: 1 (no COUNTY).", () -> EDGES.needsCounty("judge()", SleepWords::judge, -1));
        EDGES.promise(35, "The order that is done if the signs of these orders, as bits, come TOGETHER", OrdersEdgesTest::signsOfOrders);
        EDGES.promise(35, "(all orders holding); -2 none.", OrdersEdgesTest::noneTogether);
        EDGES.promise(35, "NONE: 1 (no COUNTY, orders).", OrdersEdgesTest::togetherRefused);
        EDGES.promise(36, "Orders with unlike deeds of one sign: the first two: 10 times the lesser and the other one", OrdersEdgesTest::firstTwo);
        EDGES.promise(36, "-2 there are none", OrdersEdgesTest::noClash);
        EDGES.promise(36, "NONE: 1 (no COUNTY).", () -> EDGES.needsCounty("clash()", SleepWords::clash, -1));
        EDGES.end(29, 36);
    }

    private static void terms() {
        EDGES.term("II", "FITS: sets of orders by which all seen are so: to a sign they do the deed of the order of that sign in the set with the greatest rank", OrdersEdgesTest::greatestRank);
        EDGES.term("II", "or nothing, idle, if there is none", OrdersEdgesTest::idle);
        EDGES.term("II", "ASK: the sign, by the first order that tells of it, that wasn't seen", OrdersEdgesTest::byFirstOrder);
        EDGES.term("II", "by which, what they do being told, at most fewest sets are left, the first such", OrdersEdgesTest::fewestLeft);
        EDGES.term("II", "By signs that come TOGETHER the order with the greatest rank, of like ones the last told, is done.",
            OrdersEdgesTest::lastOfLikeOnes);
    }

    private static void fits(String name, SleepWords x, int sets, int could, int surely) {
        EDGES.due(name + ", fits()", x.fits(), sets);
        EDGES.due(name + ", could()", x.could(), could);
        EDGES.due(name + ", surely()", x.surely(), surely);
        EDGES.due(name + ", trouble()", x.trouble(), 0);
    }

    private static void asks(String name, SleepWords x, int ask, int leaves) {
        EDGES.due(name + ", ask()", x.ask(), ask);
        EDGES.due(name + ", trouble()", x.trouble(), 0);
        EDGES.due(name + ", askLeaves()", x.askLeaves(), leaves);
        EDGES.due(name + ", trouble()", x.trouble(), 0);
    }

    // ---- terms

    private static void greatestRank() {
        // Rank 9 is above 8, and 2 above 1, wherever they are told.
        String[] ranks = {"9 8", "2 1", "9 1", "8 9", "1 2", "1 9"};
        for (String pair : ranks) {
            String[] rank = pair.split(" ");
            boolean first = Integer.parseInt(rank[0]) > Integer.parseInt(rank[1]);
            String orders = ONE + "order a does p rank " + rank[0] + ";order a does q rank " + rank[1];
            fits(pair + " seen p", Check.of(orders + ";seen a does p"), first ? 2 : 1, first ? 3 : 1, 1);
            fits(pair + " seen q", Check.of(orders + ";seen a does q"), first ? 1 : 2, first ? 2 : 3, 2);
        }
        // Orders of other signs are nothing to it, whatever their rank.
        fits("another sign", Check.of(ONE + "order a does p rank 1;order b does q rank 9;seen a does p"), 2, 3, 1);
        // Two orders of one deed: either does.
        fits("one deed twice", Check.of(ONE + "order a does p rank 1;order a does p rank 2;seen a does p"), 3, 3, 0);
    }

    private static void idle() {
        fits("no order of the sign", Check.of(ONE + "order a does p rank 1;seen b idle"), 2, 1, 0);
        fits("a deed without an order", Check.of(ONE + "order a does p rank 1;seen b does p"), 0, 0, 0);
        fits("none of its orders", Check.of(ONE + "order a does p rank 1;order a does q rank 2;seen a idle"), 1, 0, 0);
        // No deed is nothing, be it the shortest.
        for (char deed = 'a'; deed <= 'z'; deed++) {
            fits("deed " + deed + ", nothing seen", Check.of(ONE + "order x does " + deed + " rank 1;seen x idle"), 1, 0, 0);
            fits("deed " + deed + ", seen", Check.of(ONE + "order x does " + deed + " rank 1;seen x does " + deed), 1, 1, 1);
        }
        // A deed that is called idle is done; it isn't nothing.
        fits("idle as a deed, nothing seen", Check.of(ONE + "order a does idle rank 1;seen a idle"), 1, 0, 0);
        fits("idle as a deed, seen", Check.of(ONE + "order a does idle rank 1;seen a does idle"), 1, 1, 1);
    }

    private static void byFirstOrder() {
        // a was seen; b is told of by 1, 3 and 4.
        asks("the first of three", Check.of(ONE + "order a does p rank 1;order b does p rank 5;order a does q rank 2;order b does q rank 9;"
            + "order b does r rank 1;seen a idle"), 1, 4);
        // A sign that was seen isn't asked for, though fewest would be left by it.
        asks("seen ones are no more asked", Check.of(ONE + "order a does p rank 1;order a does q rank 2;order b does p rank 1;seen a does q"), 2, 2);
        // A sign may be called as a deed of an earlier order, and a deed as an earlier sign: signs alone count.
        asks("a sign that is a deed too", Check.of(ONE + "order a does b rank 1;order a does b rank 2;order b does c rank 1"), 2, 4);
        asks("a deed that is a sign too", Check.of(ONE + "order a does p rank 1;order a does p rank 2;order b does a rank 1"), 2, 4);
        // A sign that only was seen has no order to tell of it.
        asks("no order tells of it", Check.of(ONE + "seen a idle"), -2, -2);
        asks("the last order", Check.of(ONE + "order a does p rank 1;order b does p rank 1;order c does p rank 1;order d does p rank 1;"
            + "order e does p rank 1;order f does p rank 1;seen a idle;seen b idle;seen c idle;seen d idle;seen e idle"), 5, 1);
    }

    private static void fewestLeft() {
        asks("like ones: the first", Check.of(ONE + "order a does p rank 1;order b does p rank 1"), 0, 2);
        // By a: p 4 of 8 sets; by b, whose two orders do one deed: 6 of 8 sets.
        asks("fewer by the first", Check.of(ONE + "order a does p rank 1;order b does p rank 1;order b does p rank 2"), 0, 4);
        asks("fewer by the last", Check.of(ONE + "order b does p rank 1;order b does p rank 2;order a does p rank 1"), 2, 4);
        // Idle is what they do, too: it parts the sets.
        asks("idle counts", Check.of(ONE + "order a does p rank 1"), 0, 1);
        // Of like deeds the sets are counted together: of 16 sets p is done by a in 12; b does q in 8, r in 4.
        asks("like deeds together", Check.of(ONE + "order a does p rank 1;order a does p rank 2;order b does r rank 1;order b does q rank 2"), 2, 8);
        // A deed that is called idle is another than nothing.
        asks("a deed called idle", Check.of(ONE + "order a does idle rank 1;order a does idle rank 2;order a does p rank 3"), 0, 4);
        // Six orders of one sign, six deeds: 32 sets by the greatest rank.
        asks("six deeds", Check.of(ONE + "order a does p rank 1;order a does q rank 2;order a does r rank 3;order a does t rank 4;"
            + "order a does u rank 5;order a does v rank 6"), 0, 32);
        asks("only sets that fit are left", Check.of(ONE + "order a does p rank 1;order b does p rank 1;seen b does p"), 0, 1);
    }

    private static void lastOfLikeOnes() {
        SleepWords x = Check.of(ONE + "order a does p rank 5;order b does q rank 5;order c does r rank 5;order d does t rank 4;"
            + "order e does u rank 6;order d does v rank 9");
        int[][] together = {{1, 0}, {2, 1}, {3, 1}, {4, 2}, {5, 2}, {7, 2}, {6, 2}, {16, 4}, {17, 4}, {23, 4}, {8, 5}, {32, 5}, {9, 5}, {63, 5}};
        for (int[] each : together) {
            EDGES.due("together(" + each[0] + ")", x.together(each[0]), each[1]);
            EDGES.due("trouble()", x.trouble(), 0);
        }
        // The signs come, not the orders: a lesser order of a sign brings the greater one.
        SleepWords y = Check.of(ONE + "order a does p rank 9;order a does q rank 1;order b does r rank 8");
        EDGES.due("together(2)", y.together(2), 0);
        EDGES.due("together(6)", y.together(6), 0);
    }

    // ---- promises

    private static void howManySets() {
        EDGES.told("fits(), no orders", States::lean, SleepWords::fits, 1);
        EDGES.told("fits()", States::busy, SleepWords::fits, 4);
        EDGES.told("fits(), awake", States::woken, SleepWords::fits, 4);
        StringBuilder text = new StringBuilder(ONE + "seen z idle");
        for (int n = 1; n <= 6; n++) {
            text.append(";order ").append((char) ('a' + n)).append(" does p rank 9");
            EDGES.due("fits(), " + n + " orders that nothing was seen of", Check.of(text.toString()).fits(), 1 << n);
        }
        EDGES.due("fits(), none", Check.of(ONE + "order a does p rank 1;seen a does q").fits(), 0);
        EDGES.due("fits(), none without orders", Check.of(ONE + "seen a does q").fits(), 0);
        // x does q (so not order 0, but 1), z nothing (not order 3): 2, 4 and 5 are free.
        EDGES.told("fits(), all rooms full", States::brim, SleepWords::fits, 8);
    }

    private static void inSome() {
        EDGES.told("could(), no orders", States::lean, SleepWords::could, 0);
        EDGES.told("could()", States::busy, SleepWords::could, 7);
        EDGES.told("could(), all rooms full", States::brim, SleepWords::could, 54);
        EDGES.due("could(), no set", Check.of(ONE + "order a does p rank 1;order b does p rank 1;seen a does q").could(), 0);
        EDGES.due("could(), all six", Check.of(ONE + "order a does p rank 1;order b does p rank 1;order c does p rank 1;order d does p rank 1;"
            + "order e does p rank 1;order f does p rank 1").could(), 63);
        EDGES.due("could(), none in the only set", Check.of(ONE + "order a does p rank 1;seen a idle").could(), 0);
    }

    private static void inAll() {
        EDGES.told("surely(), no orders", States::lean, SleepWords::surely, 0);
        EDGES.told("surely()", States::busy, SleepWords::surely, 2);
        EDGES.told("surely(), all rooms full", States::brim, SleepWords::surely, 2);
        SleepWords none = Check.of(ONE + "order a does p rank 1;order b does p rank 1;seen a does q");
        EDGES.due("surely(), no sets", none.surely(), 0);
        EDGES.due("trouble()", none.trouble(), 0);
        EDGES.due("surely(), all in the only set", Check.of(ONE + "order a does p rank 1;order b does p rank 1;seen a does p;seen b does p").surely(), 3);
        EDGES.due("surely(), in none of all", Check.of(ONE + "order a does p rank 1").surely(), 0);
    }

    private static void firstOrderOfSign() {
        EDGES.told("ask(), click is told of by 0 and 2", States::busy, SleepWords::ask, 0);
        EDGES.due("ask(), not the greatest rank", Check.of(ONE + "order a does p rank 1;order b does p rank 1;order b does q rank 9;seen a idle").ask(), 1);
        EDGES.due("ask(), not the least rank", Check.of(ONE + "order b does p rank 9;order b does q rank 1;order a does p rank 1;seen a idle").ask(), 0);
        EDGES.due("ask(), the only sign not seen", Check.of(ONE + "order a does p rank 1;order b does p rank 1;order c does q rank 1;order d does p rank 1;"
            + "seen a idle;seen b does p;seen d idle").ask(), 2);
    }

    private static void nothingToAsk() {
        EDGES.told("ask(), no orders", States::lean, SleepWords::ask, -2);
        EDGES.told("ask()", States::busy, SleepWords::ask, 0);
        EDGES.told("ask(), all rooms full", States::brim, SleepWords::ask, 2);
        SleepWords all = Check.of(ONE + "order a does p rank 1;order b does p rank 1;seen b idle;seen a does p");
        EDGES.due("ask(), all signs seen", all.ask(), -2);
        EDGES.due("trouble()", all.trouble(), 0);
        SleepWords but = Check.of(ONE + "order a does p rank 1;order b does p rank 1;seen b idle");
        EDGES.due("ask(), all but one", but.ask(), 0);
        SleepWords none = Check.of(ONE + "order a does p rank 1;order b does p rank 1;seen b does q");
        EDGES.due("ask(), no set", none.ask(), -2);
        EDGES.due("trouble()", none.trouble(), 0);
        EDGES.told("ask(), awake", States::woken, SleepWords::ask, 0);
    }

    private static void leftAtMost() {
        EDGES.told("askLeaves(), no orders", States::lean, SleepWords::askLeaves, -2);
        EDGES.told("askLeaves()", States::busy, SleepWords::askLeaves, 2);
        // y: q in 4, p in 2, idle in 2 of 8; u: 4 and 4.
        EDGES.told("askLeaves(), all rooms full", States::brim, SleepWords::askLeaves, 4);
        EDGES.due("askLeaves(), all signs seen", Check.of(ONE + "order a does p rank 1;seen a idle").askLeaves(), -2);
        EDGES.due("askLeaves(), no set", Check.of(ONE + "order a does p rank 1;order b does p rank 1;seen b does q").askLeaves(), -2);
        EDGES.due("askLeaves(), one each", Check.of(ONE + "order a does p rank 1").askLeaves(), 1);
    }

    private static void notSo() {
        EDGES.told("judge(), nothing seen", States::lean, SleepWords::judge, -2);
        EDGES.told("judge()", States::busy, SleepWords::judge, 1);
        EDGES.told("judge(), the first", States::brim, SleepWords::judge, 0);
        String orders = ONE + "order a does p rank 1;order b does q rank 1;order a does r rank 2;";
        EDGES.due("judge(), all are so", Check.of(orders + "seen a does r;seen b does q;seen c idle").judge(), -2);
        EDGES.due("judge(), the last", Check.of(orders + "seen a does r;seen b does q;seen c idle;seen d idle;seen e does p").judge(), 4);
        EDGES.due("judge(), a lesser rank", Check.of(orders + "seen b does q;seen a does p").judge(), 1);
        EDGES.due("judge(), idle though there is an order", Check.of(orders + "seen b does q;seen a idle").judge(), 1);
        EDGES.due("judge(), two aren't so", Check.of(orders + "seen c does q;seen a idle").judge(), 0);
    }

    private static void signsOfOrders() {
        // click 0 and 2 (ranks 3, 6), cloth 1 (5), bell 3 (5).
        for (int n = 1; n < 16; n++) {
            int bits = n;
            int done = (bits & 5) != 0 ? 2 : (bits & 8) != 0 ? 3 : 1;
            for (Supplier<SleepWords> state : List.of((Supplier<SleepWords>) States::fresh, States::busy, States::woken)) {
                EDGES.told("together(" + bits + ")", state, x -> x.together(bits), done);
            }
        }
    }

    private static void noneTogether() {
        for (Supplier<SleepWords> state : States.told()) {
            EDGES.told("together(0)", state, x -> x.together(0), -2);
        }
        // Whatever was seen, all orders hold.
        EDGES.told("together(8), bell was seen idle", States::busy, x -> x.together(8), 3);
        EDGES.told("together(63), all rooms full", States::brim, x -> x.together(63), 5);
        EDGES.told("together(31), all rooms full", States::brim, x -> x.together(31), 0);
    }

    private static void togetherRefused() {
        EDGES.needsCounty("together(0)", x -> x.together(0), -1);
        EDGES.needsCounty("together(-1)", x -> x.together(-1), -1);
        for (Supplier<SleepWords> state : States.told()) {
            int all = (1 << state.get().size(6)) - 1;
            EDGES.due("together(" + all + ")", state.get().together(all) >= 0, all > 0);
            for (int bits : new int[] {all + 1, all + 2, 2 * all + 1 + 1, 64, 65, 1 << 30, -1, -2, Integer.MIN_VALUE, Integer.MAX_VALUE}) {
                EDGES.refused("together(" + bits + ")", state, x -> x.together(bits), -1, 1);
            }
        }
    }

    private static void firstTwo() {
        EDGES.told("clash()", States::busy, SleepWords::clash, 2);
        EDGES.told("clash(), all rooms full", States::brim, SleepWords::clash, 1);
        EDGES.due("clash(), the last two", Check.of(ONE + "order a does p rank 1;order b does q rank 1;order c does p rank 1;order d does q rank 1;"
            + "order e does p rank 1;order e does q rank 2").clash(), 45);
        EDGES.due("clash(), the lesser counts first", Check.of(ONE + "order a does p rank 1;order b does q rank 1;order b does r rank 2;"
            + "order a does q rank 2").clash(), 3);
        EDGES.due("clash(), then the other one", Check.of(ONE + "order a does p rank 1;order a does p rank 2;order a does q rank 3;"
            + "order a does r rank 4").clash(), 2);
        EDGES.due("clash(), a deed called idle", Check.of(ONE + "order a does idle rank 1;order a does q rank 2").clash(), 1);
    }

    private static void noClash() {
        EDGES.told("clash(), no orders", States::lean, SleepWords::clash, -2);
        EDGES.due("clash(), one order", Check.of(ONE + "order a does p rank 1").clash(), -2);
        EDGES.due("clash(), like deeds of one sign", Check.of(ONE + "order a does p rank 1;order a does p rank 2").clash(), -2);
        SleepWords unlike = Check.of(ONE + "order a does p rank 1;order b does q rank 2");
        EDGES.due("clash(), unlike deeds of two signs", unlike.clash(), -2);
        EDGES.due("trouble()", unlike.trouble(), 0);
    }
}
