import java.util.ArrayList;
import java.util.HashMap;
import java.util.HashSet;
import java.util.List;
import java.util.Map;
import java.util.Set;
import java.util.regex.Matcher;
import java.util.regex.Pattern;

/** The FAULT of a text by the document's words, the long way: patterns of lines, and sets of all that was told. */
final class TextModel {
    private static final Pattern TOKENS = Pattern.compile("[a-z]+|[0-9]+|;|[^ ]", Pattern.DOTALL);
    private static final Map<String, String> LINES = Map.of(
        "county", "lacks 1..9 snow 0..100",
        "sleeper", "NEW KIND in 0..9 frail 1..20",
        "awake", "NEW in 0..9 hands 1..4 reach 0..9",
        "word", "NEW odds 1..99 minutes 1..30",
        "before", "FIRST SECOND",
        "order", "SIGN does DEED rank RANK",
        "seen", "SHOWN DONE");
    private static final Map<String, Integer> ROOM = Map.of("sleeper", 7, "awake", 3, "word", 7, "before", 8, "order", 6, "seen", 5);
    private static final Set<String> RESERVED = Set.of("county", "sleeper", "awake", "word", "before", "order", "seen", "does", "idle");
    private static final Set<String> KINDS = Set.of("plain", "old", "hardy", "sheep");

    private final List<String> tokens = new ArrayList<>();
    private final List<Integer> places = new ArrayList<>();
    private final Map<String, String> names = new HashMap<>();
    private final Map<String, Integer> lines = new HashMap<>();
    private final Set<String> befores = new HashSet<>();
    private final Set<String> ranks = new HashSet<>();
    private final Set<String> seen = new HashSet<>();
    private int at;
    private String first = "";
    private String sign = "";

    /** Its number; 0 without one. */
    int fault;
    int place = -1;

    TextModel(String text) {
        Matcher m = TOKENS.matcher(text);
        while (m.find()) {
            tokens.add(m.group());
            places.add(m.start());
        }
        tokens.add("");
        places.add(text.length());
        fault = read();
        place = fault == 0 ? -1 : places.get(at);
    }

    int sleepers() {
        return lines.getOrDefault("sleeper", 0);
    }

    private String token() {
        return tokens.get(at);
    }

    private boolean isWord() {
        return token().matches("[a-z]{1,8}");
    }

    private boolean isWhole() {
        return token().matches("[0-9]{1,3}");
    }

    private int read() {
        while (true) {
            int wrong = readLine();
            if (wrong != 0) {
                return wrong;
            }
            if (token().equals(";")) {
                at++;
            } else if (token().isEmpty()) {
                return sleepers() == 0 ? 6 : 0;
            } else {
                return 1;
            }
        }
    }

    private int readLine() {
        String sort = token();
        if (!LINES.containsKey(sort)) {
            return 1;
        }
        boolean county = lines.containsKey("county");
        if (sort.equals("county") ? county : !county) {
            return sort.equals("county") ? 3 : 6;
        }
        if (lines.getOrDefault(sort, 0).equals(ROOM.get(sort))) {
            return 5;
        }
        at++;
        for (String part : LINES.get(sort).split(" ")) {
            int wrong = readPart(part, sort);
            if (wrong != 0) {
                return wrong;
            }
            at++;
        }
        lines.merge(sort, 1, Integer::sum);
        return 0;
    }

    private int readPart(String part, String sort) {
        switch (part) {
            case "NEW":
                return !isWord() || RESERVED.contains(token()) ? 1 : names.putIfAbsent(token(), sort) != null ? 3 : 0;
            case "KIND":
                return KINDS.contains(token()) ? 0 : 1;
            case "FIRST":
                first = token();
                return told();
            case "SECOND":
                return told() != 0 ? told() : second();
            case "SIGN":
                sign = token();
                return isWord() ? 0 : 1;
            case "DEED":
                return isWord() ? 0 : 1;
            case "RANK":
                return whole(1, 9) != 0 ? whole(1, 9) : ranks.add(sign + " " + Integer.parseInt(token())) ? 0 : 3;
            case "SHOWN":
                return !isWord() ? 1 : seen.add(token()) ? 0 : 3;
            case "DONE":
                return done();
            default:
                return part.contains("..") ? bounds(part) : token().equals(part) ? 0 : 1;
        }
    }

    private int bounds(String part) {
        String[] ends = part.split("\\.\\.");
        return whole(Integer.parseInt(ends[0]), Integer.parseInt(ends[1]));
    }

    private int whole(int least, int most) {
        if (!isWhole()) {
            return 1;
        }
        int number = Integer.parseInt(token());
        return number < least || number > most ? 4 : 0;
    }

    private int told() {
        if (!isWord() || RESERVED.contains(token())) {
            return 1;
        }
        return "word".equals(names.get(token())) ? 0 : 2;
    }

    private int second() {
        if (token().equals(first) || befores.contains(first + " " + token())) {
            return 3;
        }
        if (comesBefore(token(), first, new HashSet<>())) {
            return 7;
        }
        befores.add(first + " " + token());
        return 0;
    }

    private boolean comesBefore(String one, String other, Set<String> been) {
        if (befores.contains(one + " " + other)) {
            return true;
        }
        for (String name : names.keySet()) {
            if (befores.contains(one + " " + name) && been.add(name) && comesBefore(name, other, been)) {
                return true;
            }
        }
        return false;
    }

    private int done() {
        if (token().equals("idle")) {
            return 0;
        }
        if (!token().equals("does")) {
            return 1;
        }
        at++;
        return isWord() ? 0 : 1;
    }
}
