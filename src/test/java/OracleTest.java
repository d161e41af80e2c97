import java.math.BigInteger;
import java.util.List;
import java.util.Random;

/** Counties by chance, with acts by chance, against a model that tries every choice: all promises together. */
public final class OracleTest {
    private static final Check CHECK = new Check("OracleTest");

    public static void main(String[] args) {
        for (int seed = 1; seed <= 600; seed++) {
            new OracleTest(seed).run();
        }
        CHECK.end();
    }

    private final int number;
    private final Random random;
    private final Model model;
    private SleepWords x;
    private int troubleDue;
    private int calls;

    private OracleTest(int seed) {
        number = seed;
        random = new Random(seed);
        model = new Model(random);
    }

    private void run() {
        x = new SleepWords();
        if (model.text.length() > 900) {
            return;
        }
        tellOthersAhead();
        Check.feed(x, model.text.toString());
        due("county", x.county(model.text.length()), model.sleepers.size());
        askOfCounty();
        for (int i = 0; i < 30 && calls < 380; i++) {
            act();
            wrongCall();
            askOfNow();
        }
    }

    /** What other counties, or the beginnings of them, leave in the object must mean nothing. */
    private void tellOthersAhead() {
        for (int i = number % 4; i > 0; i--) {
            String text = new Model(random).text.toString();
            if (text.length() <= 900) {
                Check.feed(x, text);
                x.county(random.nextBoolean() ? text.length() : random.nextInt(text.length()));
                x.tending();
                x.rows();
                x.fits();
                x.day();
                x.image();
                calls += text.length() / 20 + 6;
            }
            x.county(0);
        }
    }

    private void due(String call, long got, long want) {
        troubleDue = 0;
        dueAside(call, got, want);
    }

    /** A call that is never refused leaves the TROUBLE of the one ahead of it. */
    private void dueAside(String call, long got, long want) {
        calls += 2;
        CHECK.due("county " + number + ": " + call, got, want);
        CHECK.due("county " + number + ": " + call + ", trouble()", x.trouble(), troubleDue);
    }

    private void dueRefused(String call, long got, int trouble) {
        troubleDue = trouble;
        dueAside(call, got, -1);
    }

    private void dueDone(String call, boolean got, int trouble) {
        troubleDue = trouble;
        dueAside(call, got ? 1 : 0, trouble == 0 ? 1 : 0);
    }

    private void duePart(String call, long upper, long lower, long up, long low) {
        long common = BigInteger.valueOf(up).gcd(BigInteger.valueOf(low)).longValue();
        due(call + " upper", upper, up / common);
        due(call + " lower", lower, low / common);
    }

    private void askOfCounty() {
        int[] sizes = {model.lacks, model.snow, model.sleepers.size(), model.awake.size(), model.words.size(),
            model.befores, model.orders.size(), model.seen.size()};
        for (int what = 0; what < sizes.length; what++) {
            dueAside("size(" + what + ")", x.size(what), sizes[what]);
        }
        askOfTending();
        askOfOrders();
    }

    private void askOfTending() {
        int[] hands = model.hands();
        int sum = model.tendingSum(hands);
        due("tending()", x.tending(), sum);
        int[] tender = model.tending(hands);
        int left = 0;
        for (int s = 0; s < model.sleepers.size(); s++) {
            due("tendedBy(" + s + ")", x.tendedBy(s), tender[s]);
            left |= tender[s] == -2 ? 1 << s : 0;
        }
        due("left()", x.left(), left);
        for (int a = 0; a < model.awake.size(); a++) {
            int[] without = model.hands();
            without[a] = 0;
            due("worthOf(" + a + ")", x.worthOf(a), sum - model.tendingSum(without));
        }
        due("bestHand()", x.bestHand(), model.bestHand());
    }

    private void askOfOrders() {
        List<Integer> sets = model.fits();
        int all = (1 << model.orders.size()) - 1;
        int could = 0;
        int surely = sets.isEmpty() ? 0 : all;
        for (int set : sets) {
            could |= set;
            surely &= set;
        }
        due("fits()", x.fits(), sets.size());
        due("could()", x.could(), could);
        due("surely()", x.surely(), surely);
        due("ask()", x.ask(), model.ask()[0]);
        due("askLeaves()", x.askLeaves(), model.ask()[1]);
        due("judge()", x.judge(), model.firstUnlike(all));
        due("clash()", x.clash(), model.clash());
        int bits = random.nextInt(all + 1);
        due("together(" + bits + ")", x.together(bits), model.together(bits));
        dueRefused("together(" + (all + 1) + ")", x.together(all + 1), 1);
    }

    private void act() {
        int dice = random.nextInt(12);
        if (dice < 3) {
            tend(random.nextInt(3), random.nextInt(7));
        } else if (dice < 5) {
            passDay();
        } else if (dice < 8) {
            say(random.nextInt(7));
        } else if (dice < 9) {
            int v = random.nextInt(65537);
            dueDone("seed(" + v + ")", x.seed(v), 0);
            model.now.seed = v;
        } else if (dice < 10) {
            undo();
        } else if (dice < 11) {
            image();
        } else {
            back(random.nextInt(3));
        }
    }

    private void tend(int a, int s) {
        Model.State now = model.now;
        int trouble = 0;
        if (a >= model.awake.size() || s >= model.sleepers.size()) {
            trouble = 1;
        } else if (now.woken || now.tender[s] != -2 || !model.reaches(a, s)) {
            trouble = 5;
        } else if (handsUsed(a) == model.awake.get(a)[1]) {
            trouble = 3;
        } else {
            model.keep();
            now.tender[s] = a;
        }
        dueDone("tend(" + a + ", " + s + ")", x.tend(a, s), trouble);
    }

    private int handsUsed(int a) {
        int used = 0;
        for (int t : model.now.tender) {
            used += t == a ? 1 : 0;
        }
        return used;
    }

    private void passDay() {
        Model.State now = model.now;
        if (now.woken) {
            dueRefused("day()", x.day(), 5);
            return;
        }
        model.keep();
        int all = model.harmToAll(now.tender);
        int[] tender = now.tender.clone();
        for (int s = 0; s < model.sleepers.size(); s++) {
            now.harm[s] += model.harmTo(s, tender);
            now.tender[s] = -2;
        }
        now.day++;
        due("day()", x.day(), all);
    }

    private void say(int w) {
        Model.State now = model.now;
        if (w >= model.words.size()) {
            dueRefused("say(" + w + ")", x.say(w), 1);
        } else if (now.woken || !model.canFollow(now.said, w)) {
            dueRefused("say(" + w + ")", x.say(w), 5);
        } else {
            model.keep();
            now.seed = (int) ((75L * now.seed + 74) % 65537);
            now.woken = now.seed % model.oddsLeft() < model.words.get(w)[0];
            now.said.add(w);
            due("say(" + w + ")", x.say(w), now.woken ? 1 : 0);
        }
    }

    private void undo() {
        boolean can = !model.past.isEmpty();
        if (can) {
            model.now = model.past.remove(model.past.size() - 1);
        }
        dueDone("undo()", x.undo(), can ? 0 : 6);
    }

    private void image() {
        if (model.images.size() == 3) {
            dueRefused("image()", x.image(), 3);
        } else {
            model.images.add(model.now.copy());
            due("image()", x.image(), model.images.size() - 1);
        }
    }

    private void back(int i) {
        boolean can = i < model.images.size();
        if (can) {
            model.now = model.images.get(i).copy();
            model.past.clear();
        }
        dueDone("back(" + i + ")", x.back(i), can ? 0 : 1);
    }

    /** A refused call, whatever NOW is: what is asked behind it tells that nothing has changed by it. */
    private void wrongCall() {
        int s = outside(model.sleepers.size() - 1);
        int a = outside(model.awake.size() - 1);
        int w = outside(model.words.size() - 1);
        int n = outside(90);
        int seed = outside(65536);
        boolean lower = random.nextBoolean();
        switch (random.nextInt(28)) {
            case 0 -> dueRefused("county", x.county(outside(x.size(13))), 2);
            case 1 -> dueRefused("counts", x.counts(outside(99999)), 2);
            case 2 -> dueRefused("really", x.really(outside(999999)), 2);
            case 3 -> dueRefused("sum", x.sum(outside(99999), 0), 2);
            case 4 -> dueRefused("sum, the other", x.sum(model.lacks, outside(99999)), 2);
            case 5 -> dueRefused("sleeper " + s, x.sleeper(s, random.nextInt(6)), 1);
            case 6 -> dueRefused("sleeper, what", x.sleeper(0, outside(5)), 1);
            case 7 -> dueRefused("awake " + a, x.awake(a, random.nextInt(5)), 1);
            case 8 -> dueRefused("awake, what", x.awake(0, outside(4)), 1);
            case 9 -> dueRefused("harmOf " + s, x.harmOf(s), 1);
            case 10 -> dueRefused("tendedBy " + s, x.tendedBy(s), 1);
            case 11 -> dueRefused("worthOf " + a, x.worthOf(a), 1);
            case 12 -> dueRefused("word " + w, x.word(w, random.nextInt(4)), 1);
            case 13 -> dueRefused("word, what", x.word(0, outside(3)), 1);
            case 14 -> dueRefused("chance " + w, x.chance(w, lower), 1);
            case 15 -> dueRefused("meanFirst " + w, x.meanFirst(w, lower), 1);
            case 16 -> dueRefused("within", x.within(outside(300), lower), 2);
            case 17 -> dueRefused("withinWords", x.withinWords(outside(300)), 2);
            case 18 -> dueRefused("searchAt " + w, x.searchAt(w), 1);
            case 19 -> dueRefused("winters, SEED", x.winters(seed, 90), 2);
            case 20 -> dueRefused("winters, days", x.winters(65536, n), 2);
            case 21 -> dueRefused("wintersOf " + s, x.wintersOf(s, seed, n), 1);
            case 22 -> dueRefused("wintersOf, SEED and days", x.wintersOf(0, lower ? seed : 0, n), 2);
            case 23 -> dueRefused("above", x.above(outside(9999), 0, 0), 2);
            case 24 -> dueDone("tend " + a + ", " + s, x.tend(lower ? a : 0, s), 1);
            case 25 -> dueDone("seed " + seed, x.seed(seed), 2);
            case 26 -> dueDone("back", x.back(outside(model.images.size() - 1)), 1);
            default -> dueRefused("say " + w, x.say(w), 1);
        }
    }

    /** A number that isn't one of 0 .. most. */
    private int outside(int most) {
        int[] numbers = {-1, most + 1, most + 2, -2 - random.nextInt(100), most + 1 + random.nextInt(1000), Integer.MIN_VALUE, Integer.MAX_VALUE};
        return numbers[random.nextInt(numbers.length)];
    }

    private void askOfNow() {
        Model.State now = model.now;
        int[] sizes = {now.day, now.woken ? 1 : 0, now.seed, model.past.size(), model.images.size()};
        int what = random.nextInt(sizes.length);
        dueAside("size(" + (8 + what) + ")", x.size(8 + what), sizes[what]);
        int dice = random.nextInt(6);
        if (dice == 0) {
            askOfSleepers();
        } else if (dice == 1) {
            askOfAwake();
        } else if (dice == 2) {
            askOfSearch();
        } else if (dice == 3) {
            askOfWords();
        } else if (dice == 4) {
            askOfWinters();
        } else {
            askOfLed();
        }
    }

    private void askOfSleepers() {
        Model.State now = model.now;
        int s = random.nextInt(model.sleepers.size());
        int may = 0;
        for (int a = 0; a < model.awake.size(); a++) {
            may |= model.reaches(a, s) ? 1 << a : 0;
        }
        int[] one = model.sleepers.get(s);
        int[] told = {one[0], one[1], one[2], now.harm[s], now.tender[s], may};
        for (int what = 0; what < told.length; what++) {
            due("sleeper(" + s + ", " + what + ")", x.sleeper(s, what), told[what]);
        }
        due("harmOf(" + s + ")", x.harmOf(s), now.woken ? 0 : model.harmTo(s, now.tender));
        due("harm()", x.harm(), now.woken ? 0 : model.harmToAll(now.tender));
        int all = 0;
        int worst = -2;
        for (int i = 0; i < model.sleepers.size(); i++) {
            all += now.harm[i];
            if (now.harm[i] > (worst == -2 ? 0 : now.harm[worst])) {
                worst = i;
            }
        }
        due("harmed()", x.harmed(), all);
        due("worst()", x.worst(), worst);
    }

    private void askOfAwake() {
        for (int a = 0; a < model.awake.size(); a++) {
            int tends = 0;
            for (int s = 0; s < model.sleepers.size(); s++) {
                tends |= model.now.tender[s] == a ? 1 << s : 0;
            }
            int[] one = model.awake.get(a);
            int[] told = {one[0], one[1], one[2], tends, one[1] - Integer.bitCount(tends)};
            for (int what = 0; what < told.length; what++) {
                due("awake(" + a + ", " + what + ")", x.awake(a, what), told[what]);
            }
        }
        dueRefused("awake(" + model.awake.size() + ", 0)", x.awake(model.awake.size(), 0), 1);
    }

    private void askOfSearch() {
        boolean over = model.now.woken || model.unsaid().isEmpty();
        model.tryRows(-1);
        due("rows()", x.rows(), model.rowCount);
        duePart("mean", x.mean(false), x.mean(true), over ? 0 : model.rowCost, over ? 1 : model.oddsLeft());
        int length = over ? 0 : model.bestRow.size();
        for (int i = 0; i < length; i++) {
            due("searchAt(" + i + ")", x.searchAt(i), model.bestRow.get(i));
        }
        for (int i = length; i <= model.words.size(); i++) {
            dueRefused("searchAt(" + i + ") behind it", x.searchAt(i), 1);
        }
        int next = 0;
        for (int w = 0; w < model.words.size(); w++) {
            if (!model.now.woken && model.canFollow(model.now.said, w)) {
                next |= 1 << w;
                model.tryRows(w);
                duePart("meanFirst(" + w + ")", x.meanFirst(w, false), x.meanFirst(w, true), model.rowCost, model.oddsLeft());
            } else {
                dueRefused("meanFirst(" + w + ")", x.meanFirst(w, false), 5);
            }
        }
        due("next()", x.next(), next);
    }

    private void askOfWords() {
        Model.State now = model.now;
        for (int w = 0; w < model.words.size(); w++) {
            int ahead = 0;
            for (int v = 0; v < model.words.size(); v++) {
                ahead |= model.before[v][w] ? 1 << v : 0;
            }
            int[] one = model.words.get(w);
            due("word(" + w + ", 2)", x.word(w, 2), now.said.contains(w) ? 1 : 0);
            due("word(" + w + ", 3)", x.word(w, 3), ahead);
            boolean nothing = now.woken || now.said.contains(w);
            duePart("chance(" + w + ")", x.chance(w, false), x.chance(w, true), nothing ? 0 : one[0], nothing ? 1 : model.oddsLeft());
        }
        int minutes = random.nextInt(120);
        boolean over = now.woken || model.unsaid().isEmpty();
        int bits = over ? 0 : model.within(minutes);
        due("withinWords(" + minutes + ")", x.withinWords(minutes), bits);
        duePart("within(" + minutes + ")", x.within(minutes, false), x.within(minutes, true),
            model.oddsOf(bits), over ? 1 : model.oddsLeft());
    }

    private void askOfWinters() {
        int seed = random.nextInt(65537);
        int n = random.nextInt(91);
        int[][] harm = model.winters(seed, n);
        String args = seed + ", " + n + ")";
        due("winters(" + args, x.winters(seed, n), harm[0][n] - harm[0][0]);
        for (int s = 0; s < model.sleepers.size(); s++) {
            due("wintersOf(" + s + ", " + args, x.wintersOf(s, seed, n), harm[1][s]);
        }
        int much = random.nextInt(harm[0][n] + 20);
        int first = 0;
        for (int d = n; d > 0; d--) {
            first = harm[0][d] > much ? d : first;
        }
        due("above(" + much + ", " + args, x.above(much, seed, n), first);
    }

    private void askOfLed() {
        List<Integer> said = new java.util.ArrayList<>(model.now.said);
        java.util.Collections.sort(said);
        for (int i = 0; i < said.size(); i++) {
            dueAside("led(" + i + ")", x.led(i), said.get(i));
        }
        CHECK.dueNoSuchElement("county " + number + ": led(" + said.size() + ")", x, said.size());
    }
}
