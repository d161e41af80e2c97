/** Promises 29 to 36: fits, could, surely, ask, askLeaves, judge, together, clash. */
public final class OrdersTest {
    private static final Check CHECK = new Check("OrdersTest");
    private static final String ONE = Counties.HEAD + "sleeper s plain in 0 frail 1;";

    public static void main(String[] args) {
        full();
        ranks();
        asking();
        askingOfLikeDeeds();
        noSet();
        idleAsDeed();
        judging();
        comingTogether();
        clashes();
        noOrders();
        wrongInputs();
        CHECK.end();
    }

    private static void due(SleepWords x, String name, int fits, int could, int surely) {
        CHECK.due(name + " fits()", x, x.fits(), fits, 0);
        CHECK.due(name + " could()", x, x.could(), could, 0);
        CHECK.due(name + " surely()", x, x.surely(), surely, 0);
    }

    private static void dueAsk(SleepWords x, String name, int ask, int leaves) {
        CHECK.due(name + " ask()", x, x.ask(), ask, 0);
        CHECK.due(name + " askLeaves()", x, x.askLeaves(), leaves, 0);
    }

    private static void full() {
        SleepWords x = Counties.full();
        due(x, "full", 4, 7, 2);
        // By click: bow in two sets, look in one, idle in one.
        dueAsk(x, "full", 0, 2);
        CHECK.due("full judge()", x, x.judge(), 1, 0);
        CHECK.due("full clash()", x, x.clash(), 2, 0);
    }

    private static void ranks() {
        // Seen to bow: the order of rank 6 is not there, or it bows itself.
        SleepWords x = Check.of(ONE + "order a does look rank 6;order a does bow rank 3;order a does run rank 1;seen a does bow");
        due(x, "lesser rank", 2, 6, 2);
        SleepWords y = Check.of(ONE + "order a does bow rank 1;order a does look rank 2;order a does bow rank 3;seen a does bow");
        due(y, "two ways", 5, 7, 0);
        SleepWords z = Check.of(ONE + "order a does bow rank 1;order b does look rank 2;seen a idle");
        due(z, "idle", 2, 2, 0);
        dueAsk(z, "idle", 1, 1);
    }

    private static void asking() {
        // By b half of the sets are left, by a too: the first.
        SleepWords x = Check.of(ONE + "order a does p rank 1;order b does p rank 1");
        due(x, "two signs", 4, 3, 0);
        dueAsk(x, "two signs", 0, 2);
        // b has three deeds: fewest are left by it, and it is told by its first order.
        SleepWords y = Check.of(ONE + "order a does p rank 1;order b does q rank 1;order b does r rank 2;order b does t rank 3");
        dueAsk(y, "three deeds", 0, 8);
        SleepWords z = Check.of(ONE + "order a does p rank 1;order b does q rank 5;order c does r rank 2;order b does q rank 3;seen c idle;seen a does p");
        dueAsk(z, "one unseen", 1, 3);
        SleepWords u = Check.of(ONE + "order a does p rank 1;order b does p rank 1;seen b idle;seen a idle;seen c idle");
        dueAsk(u, "all seen", -2, -2);
        due(u, "all seen", 1, 0, 0);
    }

    private static void askingOfLikeDeeds() {
        // a: p in three of four, idle in one (of each of b's four sets); b: p 8, q 4, idle 4.
        SleepWords x = Check.of(ONE + "order a does p rank 1;order b does q rank 1;order a does p rank 2;order b does p rank 2");
        dueAsk(x, "like deeds", 1, 8);
    }

    private static void noSet() {
        SleepWords x = Check.of(ONE + "order a does p rank 1;order b does q rank 1;seen a does q");
        due(x, "no set", 0, 0, 0);
        dueAsk(x, "no set", -2, -2);
        CHECK.due("no set judge()", x.judge(), 0);
        SleepWords y = Check.of(ONE + "order a does p rank 1;seen c does p");
        due(y, "a sign of no order", 0, 0, 0);
    }

    private static void idleAsDeed() {
        SleepWords x = Check.of(ONE + "order a does idle rank 1;seen a idle");
        due(x, "a deed that is called idle, not done", 1, 0, 0);
        SleepWords y = Check.of(ONE + "order a does idle rank 1;seen a does idle");
        due(y, "a deed that is called idle, done", 1, 1, 1);
    }

    private static void judging() {
        SleepWords x = Check.of(ONE + "order a does p rank 1;order a does q rank 2;order b does r rank 1;seen b does r;seen c idle;seen a does p;seen d does r");
        CHECK.due("judge() by all orders", x, x.judge(), 2, 0);
        SleepWords y = Check.of(ONE + "order a does p rank 1;order a does q rank 2;order b does r rank 1;seen b does r;seen c idle;seen a does q");
        CHECK.due("judge() all so", y, y.judge(), -2, 0);
    }

    private static void comingTogether() {
        SleepWords x = Counties.full();
        CHECK.due("together(0)", x, x.together(0), -2, 0);
        // The sign of order 0 brings order 2, which has a greater rank.
        CHECK.due("together(1)", x, x.together(1), 2, 0);
        CHECK.due("together(4)", x, x.together(4), 2, 0);
        CHECK.due("together(2)", x, x.together(2), 1, 0);
        CHECK.due("together(10), like ranks: the last told", x, x.together(10), 3, 0);
        CHECK.due("together(15)", x, x.together(15), 2, 0);
        CHECK.due("together(16)", x, x.together(16), -1, 1);
        CHECK.due("together(-1)", x, x.together(-1), -1, 1);
        CHECK.due("together(MIN)", x, x.together(Integer.MIN_VALUE), -1, 1);
    }

    private static void clashes() {
        SleepWords x = Check.of(ONE + "order a does p rank 1;order b does q rank 1;order b does r rank 2;order a does p rank 2;order c does p rank 1;order a does q rank 9");
        CHECK.due("clash() the first by the lesser", x, x.clash(), 5, 0);
        SleepWords y = Check.of(ONE + "order a does p rank 1;order b does q rank 1;order b does r rank 2;order a does p rank 2");
        CHECK.due("clash() of unlike deeds", y, y.clash(), 12, 0);
        SleepWords z = Check.of(ONE + "order a does p rank 1;order b does q rank 1;order a does p rank 2");
        CHECK.due("clash() none", z, z.clash(), -2, 0);
    }

    private static void noOrders() {
        SleepWords x = Counties.lean();
        due(x, "lean", 1, 0, 0);
        dueAsk(x, "lean", -2, -2);
        CHECK.due("lean judge()", x, x.judge(), -2, 0);
        CHECK.due("lean together(0)", x, x.together(0), -2, 0);
        CHECK.due("lean together(1)", x, x.together(1), -1, 1);
        CHECK.due("lean clash()", x, x.clash(), -2, 0);
    }

    private static void wrongInputs() {
        SleepWords none = new SleepWords();
        CHECK.due("no county, fits", none, none.fits(), -1, 1);
        CHECK.due("no county, could", none, none.could(), -1, 1);
        CHECK.due("no county, surely", none, none.surely(), -1, 1);
        CHECK.due("no county, ask", none, none.ask(), -1, 1);
        CHECK.due("no county, askLeaves", none, none.askLeaves(), -1, 1);
        CHECK.due("no county, judge", none, none.judge(), -1, 1);
        CHECK.due("no county, together", none, none.together(0), -1, 1);
        CHECK.due("no county, clash", none, none.clash(), -1, 1);
    }
}
