import java.util.ArrayList;
import java.util.Arrays;
import java.util.List;
import java.util.Random;

/** Texts by chance, most of them spoilt in a place or two, against the FAULT that TextModel finds. */
public final class TextOracleTest {
    private static final Check CHECK = new Check("TextOracleTest");
    private static final String[] STRAY = {"county", "lacks", "7", "snow", "50", "sleeper", "plain", "old", "hardy", "sheep", "in", "frail",
        "awake", "hands", "reach", "word", "odds", "minutes", "before", "order", "does", "rank", "seen", "idle", ";", "wa", "wb", "wc", "sa",
        "aa", "bell", "click", "dance", "0", "1", "4", "5", "9", "10", "20", "21", "30", "31", "99", "100", "101", "999", "1000", "007",
        "abcdefgh", "abcdefghi", "A", "-", "\u00ff", "\n"};
    private static final String[] LINES = {"county lacks 3 snow 4", "sleeper ta old in 3 frail 4", "awake ba in 3 hands 2 reach 2",
        "word xa odds 3 minutes 4", "before wa wb", "before wb wa", "before wb wc", "before wc wa", "before wa wc", "before xa wa",
        "order bell does dance rank 3", "order x does y rank 9", "seen bell idle", "seen x does y", "seen y idle"};

    private final Random random;
    private final int[] found = new int[8];

    private TextOracleTest(int seed) {
        random = new Random(seed);
    }

    public static void main(String[] args) {
        TextOracleTest test = new TextOracleTest(2026);
        for (int i = 0; i < 60000; i++) {
            test.tryOne(test.spoilt());
        }
        for (int fault = 0; fault < 8; fault++) {
            CHECK.due("FAULT " + fault + " was met often", test.found[fault] > 100, true);
        }
        CHECK.end();
    }

    private void tryOne(String text) {
        TextModel model = new TextModel(text);
        found[model.fault]++;
        SleepWords x = new SleepWords();
        CHECK.due("county of: " + text, Check.tell(x, text), model.fault == 0 ? model.sleepers() : -1);
        CHECK.due("fault() of: " + text, x.fault(), model.fault);
        CHECK.due("where() of: " + text, x.where(), model.place);
    }

    private String spoilt() {
        List<String> lines = new ArrayList<>(Arrays.asList(new Model(random).text.toString().split(" ?; ?")));
        for (int i = random.nextInt(6); i > 0; i--) {
            int at = random.nextInt(8) == 0 ? 0 : 1 + random.nextInt(lines.size());
            lines.add(Math.min(at, lines.size()), random.nextInt(4) == 0 ? lines.get(random.nextInt(lines.size())) : LINES[random.nextInt(LINES.length)]);
        }
        if (random.nextInt(12) == 0) {
            lines.removeIf(line -> line.startsWith("sleeper"));
        }
        String text = String.join(random.nextInt(5) == 0 ? " ; " : ";", lines);
        for (int i = random.nextInt(3); i > 0; i--) {
            text = spoil(text);
        }
        return text.length() > 900 ? text.substring(0, 900) : text;
    }

    private String spoil(String text) {
        List<String> tokens = new ArrayList<>(Arrays.asList(text.replace(";", " ; ").trim().split(" +")));
        int at = random.nextInt(tokens.size());
        switch (random.nextInt(7)) {
            case 0 -> tokens.remove(at);
            case 1 -> tokens.add(at, STRAY[random.nextInt(STRAY.length)]);
            case 2 -> tokens.set(at, STRAY[random.nextInt(STRAY.length)]);
            case 3 -> tokens.set(at, tokens.get(random.nextInt(tokens.size())));
            case 4 -> tokens.set(at, tokens.get(at) + (random.nextBoolean() ? "s" : "0"));
            case 5 -> {
                return text.substring(0, random.nextInt(text.length() + 1));
            }
            default -> {
                int place = random.nextInt(text.length() + 1);
                return text.substring(0, place) + (char) random.nextInt(256) + text.substring(place);
            }
        }
        return String.join(" ", tokens).replace(" ; ", ";");
    }
}
