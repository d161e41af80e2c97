import java.util.ArrayList;
import java.util.List;
import java.util.Random;

/** A county by chance, with its text, and the document's words done the long way: every choice is tried. */
final class Model {
    static final String[] KINDS = {"plain", "old", "hardy", "sheep"};
    static final String[] SIGNS = {"bell", "click", "cloth", "does"};
    static final String[] DEEDS = {"dance", "bow", "idle"};

    final StringBuilder text = new StringBuilder();
    int lacks;
    int snow;
    final List<int[]> sleepers = new ArrayList<>(); // kind, house, frail
    final List<int[]> awake = new ArrayList<>(); // house, hands, reach
    final List<int[]> words = new ArrayList<>(); // odds, minutes
    boolean[][] before; // [first][second], by others too
    int befores;
    final List<String[]> orders = new ArrayList<>(); // sign, deed, rank
    final List<String[]> seen = new ArrayList<>(); // sign, deed or null

    /** What ACTS change. */
    static final class State {
        int day;
        int seed;
        boolean woken;
        List<Integer> said = new ArrayList<>();
        int[] harm = new int[7];
        int[] tender = {-2, -2, -2, -2, -2, -2, -2};

        State copy() {
            State s = new State();
            s.day = day;
            s.seed = seed;
            s.woken = woken;
            s.said = new ArrayList<>(said);
            s.harm = harm.clone();
            s.tender = tender.clone();
            return s;
        }
    }

    State now = new State();
    final List<State> past = new ArrayList<>();
    final List<State> images = new ArrayList<>();

    Model(Random r) {
        lacks = 1 + r.nextInt(9);
        snow = r.nextInt(101);
        line(r, "county lacks " + lacks + " snow " + snow);
        int most = 1 + r.nextInt(20);
        int n = 1 + r.nextInt(7);
        for (int s = 0; s < n; s++) {
            int[] one = {r.nextInt(4), r.nextInt(10), 1 + r.nextInt(most)};
            sleepers.add(one);
            line(r, "sleeper s" + letters(s) + " " + KINDS[one[0]] + " in " + one[1] + " frail " + one[2]);
        }
        n = r.nextInt(4);
        for (int a = 0; a < n; a++) {
            int[] one = {r.nextInt(10), 1 + r.nextInt(4), r.nextInt(10)};
            awake.add(one);
            line(r, "awake a" + letters(a) + " in " + one[0] + " hands " + one[1] + " reach " + one[2]);
        }
        makeWords(r);
        makeOrders(r);
    }

    private static String letters(int i) {
        return String.valueOf((char) ('a' + i));
    }

    private void line(Random r, String line) {
        if (text.length() > 0) {
            text.append(r.nextInt(4) == 0 ? " ; " : ";");
        }
        text.append(line);
    }

    private void makeWords(Random r) {
        int mostOdds = 1 + r.nextInt(99);
        int mostMinutes = 1 + r.nextInt(30);
        int n = r.nextInt(8);
        for (int w = 0; w < n; w++) {
            int[] one = {1 + r.nextInt(mostOdds), 1 + r.nextInt(mostMinutes)};
            words.add(one);
            line(r, "word w" + letters(w) + " odds " + one[0] + " minutes " + one[1]);
        }
        before = new boolean[n][n];
        boolean[][] told = new boolean[n][n];
        int tries = n < 2 ? 0 : r.nextInt(9);
        for (int t = 0; t < tries; t++) {
            int a = r.nextInt(n);
            int b = r.nextInt(n);
            if (a != b && !told[a][b] && !before[b][a]) {
                told[a][b] = true;
                befores++;
                line(r, "before w" + letters(a) + " w" + letters(b));
                before[a][b] = true;
                for (int k = 0; k < n; k++) {
                    for (int i = 0; i < n; i++) {
                        for (int j = 0; j < n; j++) {
                            before[i][j] |= before[i][k] && before[k][j];
                        }
                    }
                }
            }
        }
    }

    private void makeOrders(Random r) {
        int tries = r.nextInt(8);
        for (int t = 0; t < tries && orders.size() < 6; t++) {
            String[] one = {SIGNS[r.nextInt(4)], DEEDS[r.nextInt(3)], "" + (1 + r.nextInt(4))};
            boolean again = false;
            for (String[] o : orders) {
                again |= o[0].equals(one[0]) && o[2].equals(one[2]);
            }
            if (!again) {
                orders.add(one);
                line(r, "order " + one[0] + " does " + one[1] + " rank " + one[2]);
            }
        }
        for (String sign : SIGNS) {
            if (r.nextInt(3) == 0) {
                String deed = r.nextBoolean() ? null : DEEDS[r.nextInt(3)];
                seen.add(new String[] {sign, deed});
                line(r, "seen " + sign + (deed == null ? " idle" : " does " + deed));
            }
        }
    }

    // ---- sleepers

    int weight(int s) {
        int[] one = sleepers.get(s);
        return one[0] == 1 ? 2 * one[2] : one[0] == 2 ? one[2] / 2 : one[2];
    }

    boolean reaches(int a, int s) {
        int far = awake.get(a)[0] - sleepers.get(s)[1];
        return far <= awake.get(a)[2] && -far <= awake.get(a)[2];
    }

    int harmTo(int s, int[] tender) {
        if (tender[s] != -2) {
            return 0;
        }
        if (sleepers.get(s)[0] == 3) {
            for (int o = 0; o < sleepers.size(); o++) {
                if (o != s && sleepers.get(o)[0] == 3 && tender[o] != -2) {
                    return 0;
                }
            }
        }
        return weight(s);
    }

    int harmToAll(int[] tender) {
        int all = 0;
        for (int s = 0; s < sleepers.size(); s++) {
            all += harmTo(s, tender);
        }
        return all;
    }

    private int bestSum;
    private int[] bestTender;

    /** The first of the best by trying all in their order, nobody behind the awake. */
    int[] tending(int[] hands) {
        bestSum = -1;
        tryTending(0, 0, hands.clone(), new int[] {-2, -2, -2, -2, -2, -2, -2});
        return bestTender;
    }

    private void tryTending(int s, int sum, int[] free, int[] tender) {
        if (s == sleepers.size()) {
            if (sum > bestSum) {
                bestSum = sum;
                bestTender = tender.clone();
            }
            return;
        }
        for (int a = 0; a < awake.size(); a++) {
            if (free[a] > 0 && reaches(a, s)) {
                free[a]--;
                tender[s] = a;
                tryTending(s + 1, sum + weight(s), free, tender);
                tender[s] = -2;
                free[a]++;
            }
        }
        tryTending(s + 1, sum, free, tender);
    }

    int tendingSum(int[] hands) {
        tending(hands);
        return bestSum;
    }

    int[] hands() {
        int[] hands = new int[awake.size()];
        for (int a = 0; a < hands.length; a++) {
            hands[a] = awake.get(a)[1];
        }
        return hands;
    }

    int bestHand() {
        int who = -2;
        int more = 0;
        for (int a = 0; a < awake.size(); a++) {
            int[] hands = hands();
            hands[a]++;
            int mine = tendingSum(hands) - tendingSum(hands());
            if (mine > more) {
                more = mine;
                who = a;
            }
        }
        return who;
    }

    // ---- words

    List<Integer> unsaid() {
        List<Integer> left = new ArrayList<>();
        for (int w = 0; w < words.size(); w++) {
            if (!now.said.contains(w)) {
                left.add(w);
            }
        }
        return left;
    }

    long oddsLeft() {
        long odds = 0;
        for (int w : unsaid()) {
            odds += words.get(w)[0];
        }
        return odds;
    }

    boolean canFollow(List<Integer> ahead, int w) {
        if (ahead.contains(w)) {
            return false;
        }
        for (int v = 0; v < words.size(); v++) {
            if (before[v][w] && !ahead.contains(v)) {
                return false;
            }
        }
        return true;
    }

    int rowCount;
    long rowCost;
    List<Integer> bestRow;

    /** All rows that begin with a word (-1: any), in the order of rows by words. */
    void tryRows(int first) {
        rowCount = 0;
        rowCost = -1;
        bestRow = new ArrayList<>();
        goOn(new ArrayList<>(now.said), now.said.size(), 0, 0, first);
    }

    private void goOn(List<Integer> row, int from, long minutes, long cost, int first) {
        if (row.size() == words.size()) {
            rowCount++;
            if (rowCost < 0 || cost < rowCost) {
                rowCost = cost;
                bestRow = new ArrayList<>(row.subList(from, row.size()));
            }
            return;
        }
        for (int w = 0; w < words.size(); w++) {
            if (canFollow(row, w) && (row.size() > from || first < 0 || w == first)) {
                row.add(w);
                long later = minutes + words.get(w)[1];
                goOn(row, from, later, cost + later * words.get(w)[0], first);
                row.remove(row.size() - 1);
            }
        }
    }

    int within(int minutes) {
        int best = 0;
        long bestOdds = 0;
        for (int bits = 0; bits < 1 << words.size(); bits++) {
            long odds = 0;
            long sum = 0;
            boolean can = true;
            for (int w = 0; w < words.size(); w++) {
                if ((bits >> w & 1) == 1) {
                    odds += words.get(w)[0];
                    sum += words.get(w)[1];
                    can &= !now.said.contains(w);
                    for (int v = 0; v < words.size(); v++) {
                        can &= !before[v][w] || now.said.contains(v) || (bits >> v & 1) == 1;
                    }
                }
            }
            if (can && sum <= minutes && odds > bestOdds) {
                best = bits;
                bestOdds = odds;
            }
        }
        return best;
    }

    long oddsOf(int bits) {
        long odds = 0;
        for (int w = 0; w < words.size(); w++) {
            odds += (bits >> w & 1) * words.get(w)[0];
        }
        return odds;
    }

    // ---- orders

    String does(String sign, int set) {
        String deed = null;
        int rank = 0;
        for (int o = 0; o < orders.size(); o++) {
            int mine = Integer.parseInt(orders.get(o)[2]);
            if ((set >> o & 1) == 1 && orders.get(o)[0].equals(sign) && mine > rank) {
                rank = mine;
                deed = orders.get(o)[1];
            }
        }
        return deed;
    }

    int firstUnlike(int set) {
        for (int i = 0; i < seen.size(); i++) {
            if (!java.util.Objects.equals(does(seen.get(i)[0], set), seen.get(i)[1])) {
                return i;
            }
        }
        return -2;
    }

    List<Integer> fits() {
        List<Integer> sets = new ArrayList<>();
        for (int set = 0; set < 1 << orders.size(); set++) {
            if (firstUnlike(set) == -2) {
                sets.add(set);
            }
        }
        return sets;
    }

    /** The order by which to ask, and how many sets are left at most. */
    int[] ask() {
        int[] answer = {-2, -2};
        List<Integer> sets = fits();
        java.util.Set<String> done = new java.util.HashSet<>();
        for (String[] s : seen) {
            done.add(s[0]);
        }
        for (int o = 0; o < orders.size() && !sets.isEmpty(); o++) {
            if (done.add(orders.get(o)[0])) {
                java.util.Map<String, Integer> parts = new java.util.HashMap<>();
                for (int set : sets) {
                    parts.merge(does(orders.get(o)[0], set) == null ? "" : does(orders.get(o)[0], set), 1, Integer::sum);
                }
                int most = java.util.Collections.max(parts.values());
                if (answer[0] == -2 || most < answer[1]) {
                    answer[0] = o;
                    answer[1] = most;
                }
            }
        }
        return answer;
    }

    int together(int bits) {
        int who = -2;
        int rank = 0;
        for (int o = 0; o < orders.size(); o++) {
            boolean shown = false;
            for (int p = 0; p < orders.size(); p++) {
                shown |= (bits >> p & 1) == 1 && orders.get(p)[0].equals(orders.get(o)[0]);
            }
            int mine = Integer.parseInt(orders.get(o)[2]);
            if (shown && mine >= rank) {
                rank = mine;
                who = o;
            }
        }
        return who;
    }

    int clash() {
        for (int o = 0; o < orders.size(); o++) {
            for (int p = o + 1; p < orders.size(); p++) {
                if (orders.get(o)[0].equals(orders.get(p)[0]) && !orders.get(o)[1].equals(orders.get(p)[1])) {
                    return 10 * o + p;
                }
            }
        }
        return -2;
    }

    // ---- winters, acts

    /** HARM of all so far behind each day, then of each sleeper behind the last. */
    int[][] winters(int seed, int n) {
        int[] tender = tending(hands());
        int[] harm = now.harm.clone();
        int[] all = new int[n + 1];
        long s = seed;
        for (int d = 0; d <= n; d++) {
            if (d > 0) {
                s = (75 * s + 74) % 65537;
                for (int i = 0; i < sleepers.size(); i++) {
                    harm[i] += !now.woken && s % 100 < snow ? harmTo(i, tender) : 0;
                }
            }
            for (int h : harm) {
                all[d] += h;
            }
        }
        return new int[][] {all, harm};
    }

    void keep() {
        past.add(now.copy());
        if (past.size() > 16) {
            past.remove(0);
        }
    }
}
