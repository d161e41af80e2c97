import java.util.ArrayList;
import java.util.Collections;
import java.util.List;
import java.util.Random;
import java.util.function.ToLongFunction;

/** The boundary cases of THE TEXT and its FAULTS: Terms I, sentence by sentence. */
public final class TextEdgesTest {
    private static final Edges EDGES = new Edges("TextEdgesTest");
    private static final String HEAD = "county lacks 7 snow 50;";
    private static final String SLEEPER = "sleeper s plain in 0 frail 1";
    private static final String ONE = HEAD + SLEEPER + ";";
    private static final String WORDS = ONE + "word a odds 1 minutes 1;word b odds 1 minutes 1;word c odds 1 minutes 1;word d odds 1 minutes 1;";
    private static final String[] RESERVED = {"county", "sleeper", "awake", "word", "before", "order", "seen", "does", "idle"};
    private static final String[] FREE = {"lacks", "snow", "plain", "old", "hardy", "sheep", "in", "frail", "hands", "reach", "odds",
        "minutes", "rank", "name", "kind", "whole", "a", "z", "zzzzzzzz"};

    public static void main(String[] args) {
        tokens();
        lines();
        names();
        faults();
        EDGES.end(1, 0);
    }

    private static void tokens() {
        EDGES.term("I", "THE TEXT of a COUNTY (THE TAPE has 900 bytes", TextEdgesTest::wholeTape);
        EDGES.term("I", "blanks, 32, part TOKENS and mean nothing else", TextEdgesTest::blanks);
        EDGES.term("I", "TOKENS: WORDS of 1 to 8 small letters that stand together", TextEdgesTest::wordLengths);
        EDGES.term("I", "WHOLES of 1 to 3 digits that do", TextEdgesTest::wholeLengths);
        EDGES.term("I", "single ones of ;", TextEdgesTest::singleOnes);
        EDGES.term("I", "LINE {; LINE}. LINE, one of:", TextEdgesTest::linesAndParts);
    }

    private static void lines() {
        EDGES.term("I", "county lacks WHOLE snow WHOLE (a digit, 1 .. 9; 0 .. 100 in a hundred)", TextEdgesTest::countyBounds);
        EDGES.term("I", "ahead of all others", TextEdgesTest::countyAhead);
        EDGES.term("I", "sleeper NAME KIND in WHOLE frail WHOLE (KIND: plain, old, hardy, or sheep; a house, 0 .. 9; 1 .. 20; up to 7)",
            TextEdgesTest::sleeperBounds);
        EDGES.term("I", "awake NAME in WHOLE hands WHOLE reach WHOLE (0 .. 9; 1 .. 4; 0 .. 9; up to 3)", TextEdgesTest::awakeBounds);
        EDGES.term("I", "word NAME odds WHOLE minutes WHOLE (1 .. 99; 1 .. 30; up to 7)", TextEdgesTest::wordBounds);
        EDGES.term("I", "or before NAME NAME (two words, unlike; each two once in that order, not the other way round, nor in a ring; up to 8)",
            TextEdgesTest::beforeBounds);
        EDGES.term("I", "order WORD does WORD rank WHOLE (a sign, a deed, any WORDS; 1 .. 9, unlike ones of one sign; up to 6)",
            TextEdgesTest::orderBounds);
        EDGES.term("I", "seen WORD does WORD, or seen WORD idle (each sign once; up to 5)", TextEdgesTest::seenBounds);
    }

    private static void names() {
        EDGES.term("I", "NAMES are WORDS but county, sleeper, awake, word, before, order, seen, does, idle", TextEdgesTest::namesBut);
        EDGES.term("I", "each told once, ahead of its use", TextEdgesTest::toldOnceAhead);
    }

    private static void faults() {
        EDGES.term("I", "FAULTS, the first that is met from the left", TextEdgesTest::leftmost);
        EDGES.term("I", "of one place the least number", TextEdgesTest::leastNumber);
        EDGES.term("I", "1 FORM: the first byte that begins no TOKEN", TextEdgesTest::everyByte);
        EDGES.term("I", "or TOKEN with which no COUNTY goes on", TextEdgesTest::goesNotOn);
        EDGES.term("I", "(the end: its place)", TextEdgesTest::theEnd);
        EDGES.term("I", "2 a NAME that isn't told", TextEdgesTest::notTold);
        EDGES.term("I", "or is of another sort than must stand there; at it", TextEdgesTest::otherSort);
        EDGES.term("I", "3 a NAME told again; at it", TextEdgesTest::nameAgain);
        EDGES.term("I", "a second word that is the first", () -> EDGES.faulty(WORDS + "before c @c;", 3));
        EDGES.term("I", "or of which the first is told already so; at it", TextEdgesTest::beforeAgain);
        EDGES.term("I", "a rank of that sign told already; at it", TextEdgesTest::rankAgain);
        EDGES.term("I", "a sign seen already; at it", TextEdgesTest::signAgain);
        EDGES.term("I", "a second county: at that WORD", TextEdgesTest::countyAgain);
        EDGES.term("I", "4 a WHOLE out of bounds; at it", TextEdgesTest::outOfBounds);
        EDGES.term("I", "5 MANY: a LINE more of its sort than there is room for, at its first WORD", TextEdgesTest::many);
        EDGES.term("I", "6 LACKS: any LINE ahead of the county; at its WORD", TextEdgesTest::aheadOfCounty);
        EDGES.term("I", "at the end: no sleeper", TextEdgesTest::noSleeper);
        EDGES.term("I", "7 RING: a second word that must already, by others too, come before the first; at it", TextEdgesTest::ring);
    }

    // ---- tokens

    private static String blanks(int count) {
        return " ".repeat(count);
    }

    private static void wholeTape() {
        String tail = "sleeper s plain in 0 frail ";
        String text = HEAD + blanks(900 - HEAD.length() - tail.length() - 2) + tail + "12";
        EDGES.due("its bytes", text.length(), 900);
        EDGES.due("all 900 are read", EDGES.county(text, 1).sleeper(0, 2), 12);
        SleepWords x = new SleepWords();
        Check.feed(x, text);
        EDGES.due("county(899)", x.county(899), 1);
        EDGES.due("899 are read", x.sleeper(0, 2), 1);
        EDGES.faulty(text.substring(0, 899) + "?", 1, 899);
        EDGES.faulty(text.substring(0, 898) + "  ", 1, 900);
    }

    private static void blanks() {
        EDGES.county("county lacks 7 snow 50;sleeper s plain in 0 frail 1", 1);
        EDGES.county("   county   lacks   7   snow   50   ;   sleeper   s   plain   in   0   frail   1   ", 1);
        EDGES.county("county lacks7snow50;sleeper s plain in0frail1", 1);
        // Where nothing parts them, they are one TOKEN.
        EDGES.faulty("@countylacks 7 snow 50", 1);
        EDGES.faulty("@coun ty lacks 7 snow 50", 1);
        EDGES.faulty("county lacks 7 snow 5 @0", 1);
        EDGES.faulty(HEAD + "sleeper s @pl ain in 0 frail 1", 1);
        EDGES.faulty(HEAD + "sleeper s plain in 0 frail 1 @2", 1);
        for (int sign : new int[] {0, 9, 10, 13, 31, 33, 95, 127, 160, 255}) {
            EDGES.faulty("county@" + (char) sign + "lacks 7 snow 50", 1);
            EDGES.faulty(HEAD + "sleeper s plain in 0 frail 1@" + (char) sign, 1);
        }
    }

    private static void wordLengths() {
        EDGES.county(HEAD + "sleeper a plain in 0 frail 1", 1);
        EDGES.county(HEAD + "sleeper abcdefgh plain in 0 frail 1", 1);
        EDGES.faulty(HEAD + "sleeper @abcdefghi plain in 0 frail 1", 1);
        EDGES.faulty(HEAD + "sleeper @abcdefghijklmnopqrstuvwxyz plain in 0 frail 1", 1);
        EDGES.county(ONE + "order a does z rank 1;order abcdefgh does hgfedcba rank 1;seen hgfedcba does abcdefgh", 1);
        EDGES.faulty(ONE + "order @abcdefghi does z rank 1", 1);
        EDGES.faulty(ONE + "order a does @abcdefghi rank 1", 1);
        EDGES.faulty(ONE + "seen @abcdefghi idle", 1);
        EDGES.faulty(ONE + "seen a does @abcdefghi", 1);
        // All eight letters count: names that differ in one of them are two.
        EDGES.county(HEAD + "sleeper abcdefgh plain in 0 frail 1;sleeper abcdefgi plain in 0 frail 1;sleeper bbcdefgh plain in 0 frail 1;"
            + "sleeper abcdefg plain in 0 frail 1;sleeper aabcdefg plain in 0 frail 1", 5);
        EDGES.faulty(HEAD + "sleeper zzzzzzzz plain in 0 frail 1;sleeper @zzzzzzzz", 3);
        unlikeWords();
        // The signs beside a and z, and great letters.
        for (char sign : new char[] {'`', '{', 'A', 'Z'}) {
            EDGES.faulty(HEAD + "sleeper @" + sign + " plain in 0 frail 1", 1);
            EDGES.faulty(HEAD + "sleeper a@" + sign + " plain in 0 frail 1", 1);
        }
        EDGES.county(HEAD + "sleeper az plain in 0 frail 1;sleeper za plain in 0 frail 1", 2);
    }

    /** Any two words that aren't the same are two signs. */
    private static void unlikeWords() {
        List<String> words = new ArrayList<>();
        for (char one = 'a'; one <= 'z'; one++) {
            words.add("" + one);
            for (char two = 'a'; two <= 'z'; two++) {
                words.add("" + one + two);
                words.add("aaaaaa" + one + two);
                words.add("" + one + two + "zzzzzz");
            }
        }
        Collections.shuffle(words, new Random(8));
        for (int i = 0; i < 40000; i++) {
            String one = words.get(i % words.size());
            String other = words.get((i + 1 + i / words.size()) % words.size());
            SleepWords x = new SleepWords();
            EDGES.due("unlike: " + one + " and " + other, Check.tell(x, ONE + "seen " + one + " idle;seen " + other + " idle"), one.equals(other) ? -1 : 1);
        }
    }

    private static void wholeLengths() {
        EDGES.due("one digit", EDGES.county("county lacks 1 snow 5;" + SLEEPER, 1).size(1), 5);
        EDGES.due("two digits", EDGES.county("county lacks 1 snow 05;" + SLEEPER, 1).size(1), 5);
        EDGES.due("three digits", EDGES.county("county lacks 1 snow 005;" + SLEEPER, 1).size(1), 5);
        EDGES.faulty("county lacks 1 snow @0005;" + SLEEPER, 1);
        EDGES.faulty("county lacks 1 snow @1000;" + SLEEPER, 1);
        EDGES.faulty("county lacks 1 snow @999;" + SLEEPER, 4);
        EDGES.faulty("county lacks @4294967297 snow 1;" + SLEEPER, 1);
        EDGES.due("digits from 0", EDGES.county("county lacks 1 snow 10;" + SLEEPER, 1).size(1), 10);
        EDGES.due("digits to 9", EDGES.county("county lacks 1 snow 99;" + SLEEPER, 1).size(1), 99);
        // The signs beside 0 and 9.
        EDGES.faulty("county lacks 1 snow @/", 1);
        EDGES.faulty("county lacks 1 snow @:", 1);
        EDGES.faulty("county lacks 1 snow 1@/", 1);
        EDGES.faulty("county lacks 1 snow 1@:", 1);
        EDGES.faulty("county lacks 1 snow @-1", 1);
        EDGES.faulty("county lacks 1 snow @+1", 1);
    }

    private static void singleOnes() {
        EDGES.county("county lacks 7 snow 50;" + SLEEPER, 1);
        EDGES.county("county lacks 7 snow 50 ; " + SLEEPER, 1);
        EDGES.faulty("county lacks 7 snow 50;@;" + SLEEPER, 1);
        EDGES.faulty("county lacks 7 snow 50; @; " + SLEEPER, 1);
        EDGES.faulty("county lacks 7 snow 50@:" + SLEEPER, 1);
        EDGES.faulty("county lacks 7 snow 50@<" + SLEEPER, 1);
    }

    private static void linesAndParts() {
        EDGES.faulty("@", 1);
        EDGES.faulty("@;", 1);
        EDGES.faulty("@;" + ONE, 1);
        EDGES.faulty("county lacks 7 snow 50@", 6);
        EDGES.faulty("county lacks 7 snow 50 @" + SLEEPER, 1);
        EDGES.faulty(ONE + "@", 1);
        EDGES.faulty(ONE + "@;", 1);
        EDGES.county(HEAD + SLEEPER, 1);
        EDGES.due("lines of all sorts, to the brim", EDGES.county(States.BRIM, 7).size(7), 5);
    }

    // ---- lines

    /** Every WHOLE there is, where the mark '#' stands: told within its bounds, a FAULT out of them. */
    private static void bounds(String text, int least, int most, ToLongFunction<SleepWords> told) {
        for (int v = 0; v <= 999; v++) {
            String marked = text.replace("#", "@" + v);
            if (v < least || v > most) {
                EDGES.faulty(marked, 4);
            } else {
                EDGES.due(v + " in: " + text, told.applyAsLong(EDGES.county(marked.replace("@", ""), 1)), v);
            }
        }
    }

    /** As many lines as there is room for, and one more; '#' is another letter in each. */
    private static void room(String ahead, String line, int room, int what) {
        StringBuilder text = new StringBuilder(ahead);
        for (int i = 0; i < room; i++) {
            text.append(i > 0 ? ";" : "").append(line.replace('#', (char) ('e' + i)));
        }
        SleepWords x = new SleepWords();
        EDGES.due("county of: " + text, Check.tell(x, text.toString()), what == 2 ? room : 1);
        EDGES.due("size(" + what + ") of: " + text, x.size(what), room);
        EDGES.faulty(text + ";@" + line.replace('#', (char) ('e' + room)), 5);
    }

    private static void countyBounds() {
        bounds("county lacks # snow 50;" + SLEEPER, 1, 9, x -> x.size(0));
        bounds("county lacks 7 snow #;" + SLEEPER, 0, 100, x -> x.size(1));
    }

    private static void countyAhead() {
        EDGES.county(HEAD + SLEEPER, 1);
        EDGES.faulty("@" + SLEEPER + ";county lacks 7 snow 50", 6);
        EDGES.faulty(HEAD + SLEEPER + ";@county lacks 7 snow 50", 3);
    }

    private static void sleeperBounds() {
        String[] kinds = {"plain", "old", "hardy", "sheep"};
        for (int kind = 0; kind < kinds.length; kind++) {
            EDGES.due(kinds[kind], EDGES.county(HEAD + "sleeper s " + kinds[kind] + " in 0 frail 1", 1).sleeper(0, 0), kind);
        }
        for (String none : new String[] {"young", "plai", "plains", "ol", "olds", "hard", "hardyy", "shee", "sheeps", "ram", "7", ";"}) {
            EDGES.faulty(HEAD + "sleeper s @" + none + " in 0 frail 1", 1);
        }
        bounds(HEAD + "sleeper s plain in # frail 1", 0, 9, x -> x.sleeper(0, 1));
        bounds(HEAD + "sleeper s plain in 0 frail #", 1, 20, x -> x.sleeper(0, 2));
        room(HEAD, "sleeper # plain in 0 frail 1", 7, 2);
    }

    private static void awakeBounds() {
        bounds(ONE + "awake a in # hands 1 reach 0", 0, 9, x -> x.awake(0, 0));
        bounds(ONE + "awake a in 0 hands # reach 0", 1, 4, x -> x.awake(0, 1));
        bounds(ONE + "awake a in 0 hands 1 reach #", 0, 9, x -> x.awake(0, 2));
        room(ONE, "awake # in 0 hands 1 reach 0", 3, 3);
    }

    private static void wordBounds() {
        bounds(ONE + "word a odds # minutes 1", 1, 99, x -> x.word(0, 0));
        bounds(ONE + "word a odds 1 minutes #", 1, 30, x -> x.word(0, 1));
        room(ONE, "word # odds 1 minutes 1", 7, 4);
    }

    private static void beforeBounds() {
        EDGES.due("two words, unlike", EDGES.county(WORDS + "before a b", 1).size(5), 1);
        EDGES.faulty(WORDS + "before a @a", 3);
        EDGES.faulty(WORDS + "before a b;before a @b", 3);
        EDGES.faulty(WORDS + "before a b;before b @a", 7);
        EDGES.faulty(WORDS + "before a b;before b c;before c @a", 7);
        // What is so by others is no second time: it may be told once itself.
        EDGES.due("by others, then itself", EDGES.county(WORDS + "before a b;before b c;before a c", 1).size(5), 3);
        // Eight of seven words, then a ninth.
        String words = ONE + "word a odds 1 minutes 1;word b odds 1 minutes 1;word c odds 1 minutes 1;word d odds 1 minutes 1;"
            + "word e odds 1 minutes 1;word f odds 1 minutes 1;word g odds 1 minutes 1;";
        String eight = words + "before a b;before a c;before a d;before a e;before a f;before a g;before b c;before b d";
        EDGES.due("eight", EDGES.county(eight, 1).size(5), 8);
        EDGES.faulty(eight + ";@before b e", 5);
        // Words and befores have a room each.
        EDGES.due("seven words beside", EDGES.county(eight, 1).size(4), 7);
    }

    private static void orderBounds() {
        for (String any : RESERVED) {
            EDGES.due("a sign: " + any, EDGES.county(ONE + "order " + any + " does y rank 1", 1).size(6), 1);
            EDGES.due("a deed: " + any, EDGES.county(ONE + "order x does " + any + " rank 1", 1).size(6), 1);
        }
        for (String any : FREE) {
            EDGES.due("sign and deed: " + any, EDGES.county(ONE + "order " + any + " does " + any + " rank 1", 1).size(6), 1);
        }
        EDGES.due("a sign that is a name too", EDGES.county(ONE + "order s does s rank 1", 1).size(6), 1);
        // Its rank is seen by what is done: more than 1 to 8, less than 9.
        for (int v = 0; v <= 999; v++) {
            String text = ONE + "order x does y rank @" + v;
            if (v < 1 || v > 9) {
                EDGES.faulty(text, 4);
            } else {
                rankTold(text.replace("@", ""), v);
            }
        }
        EDGES.faulty(ONE + "order x does y rank 1;order x does z rank @1", 3);
        EDGES.due("like ones of two signs", EDGES.county(ONE + "order x does y rank 1;order z does y rank 1", 1).size(6), 2);
        EDGES.due("unlike ones of one sign", EDGES.county(ONE + "order x does y rank 1;order x does y rank 2", 1).size(6), 2);
        room(ONE, "order # does y rank 1", 6, 6);
    }

    private static void rankTold(String text, int rank) {
        for (int other = 1; other <= 9; other++) {
            if (other != rank) {
                SleepWords x = EDGES.county(text + ";order x does z rank " + other, 1);
                EDGES.due("rank " + rank + " beside " + other, x.together(1), rank > other ? 0 : 1);
            }
        }
    }

    private static void seenBounds() {
        for (String any : RESERVED) {
            EDGES.due("seen idle: " + any, EDGES.county(ONE + "seen " + any + " idle", 1).size(7), 1);
            EDGES.due("seen: " + any, EDGES.county(ONE + "seen " + any + " does " + any, 1).size(7), 1);
        }
        EDGES.faulty(ONE + "seen x idle;seen @x does y", 3);
        EDGES.faulty(ONE + "seen x does y;seen @x idle", 3);
        EDGES.faulty(ONE + "seen x does y;seen @x does y", 3);
        EDGES.due("one deed of two signs", EDGES.county(ONE + "seen x does y;seen z does y", 1).size(7), 2);
        EDGES.due("a deed that is a sign seen", EDGES.county(ONE + "seen x does y;seen y does x", 1).size(7), 2);
        room(ONE, "seen # idle", 5, 7);
        room(ONE, "seen # does y", 5, 7);
    }

    // ---- names

    private static void namesBut() {
        for (String word : RESERVED) {
            EDGES.faulty(HEAD + "sleeper @" + word + " plain in 0 frail 1", 1);
            EDGES.faulty(ONE + "awake @" + word + " in 0 hands 1 reach 0", 1);
            EDGES.faulty(ONE + "word @" + word + " odds 1 minutes 1", 1);
            EDGES.faulty(WORDS + "before @" + word + " a", 1);
            EDGES.faulty(WORDS + "before a @" + word, 1);
        }
        for (String word : FREE) {
            EDGES.county(HEAD + "sleeper " + word + " plain in 0 frail 1", 1);
            EDGES.county(ONE + "awake " + word + " in 0 hands 1 reach 0", 1);
            EDGES.county(ONE + "word " + word + " odds 1 minutes 1;word other odds 1 minutes 1;before " + word + " other", 1);
        }
        for (String word : new String[] {"count", "countys", "sleepers", "wake", "words", "befor", "orders", "see", "seens", "doe", "idles"}) {
            EDGES.county(HEAD + "sleeper " + word + " plain in 0 frail 1", 1);
        }
    }

    private static void toldOnceAhead() {
        String[] sorts = {"sleeper @ plain in 0 frail 1", "awake @ in 0 hands 1 reach 0", "word @ odds 1 minutes 1"};
        for (String first : sorts) {
            for (String second : sorts) {
                EDGES.faulty(ONE + first.replace("@", "q") + ";" + second.replace("@", "@q"), 3);
                String unlike = ONE + first.replace("@", "q") + ";" + second.replace("@", "r");
                SleepWords x = new SleepWords();
                EDGES.due("unlike ones: " + unlike, Check.tell(x, unlike) > 0, true);
            }
        }
        EDGES.faulty(ONE + "word a odds 1 minutes 1;before a @b;word b odds 1 minutes 1", 2);
        EDGES.faulty(ONE + "before @a b;word a odds 1 minutes 1;word b odds 1 minutes 1", 2);
        EDGES.county(ONE + "word b odds 1 minutes 1;word a odds 1 minutes 1;before a b", 1);
    }

    // ---- faults

    private static void leftmost() {
        EDGES.faulty("county lacks @0 snow 101;sleeper does", 4);
        EDGES.faulty(HEAD + "sleeper s plain in @10 frail 0;?", 4);
        EDGES.faulty(ONE + "awake @s in 10 hands 0 reach 10", 3);
        EDGES.faulty(ONE + "before @s idle", 2);
        EDGES.faulty("@sleeper does;?", 6);
        EDGES.faulty("county lacks 7 snow 50@?;sleeper s", 1);
        EDGES.faulty(WORDS + "before a b;before b @a ?", 7);
        EDGES.faulty(WORDS + "before a @a b", 3);
        EDGES.faulty(ONE + "seen x idle;seen @x ?", 3);
        EDGES.faulty(HEAD + "awake a in 0 hands 1 reach @10", 4);
        // A line too many is met at its first word, ahead of all that is wrong in it.
        String three = ONE + "awake a in 0 hands 1 reach 0;awake b in 0 hands 1 reach 0;awake c in 0 hands 1 reach 0;";
        for (String rest : new String[] {"", " ?", " ;", " a", " does", " d in 10"}) {
            EDGES.faulty(three + "@awake" + rest, 5);
        }
    }

    private static void leastNumber() {
        // At the end a LINE is missing, and a sleeper too; with the LINE there only the sleeper is.
        EDGES.faulty(HEAD + "@", 1);
        EDGES.faulty("county@", 1);
        EDGES.faulty("county lacks 7 snow@", 1);
        EDGES.faulty("county lacks 7 snow 50@", 6);
        EDGES.faulty("@", 1);
    }

    private static void everyByte() {
        for (int sign = 0; sign < 256; sign++) {
            boolean begins = sign == ' ' || sign == ';' || sign >= 'a' && sign <= 'z' || sign >= '0' && sign <= '9';
            String text = HEAD + SLEEPER;
            if (!begins) {
                EDGES.faulty("@" + (char) sign, 1);
                EDGES.faulty("@" + (char) sign + text, 1);
                EDGES.faulty(text + "@" + (char) sign, 1);
                EDGES.faulty(text + ";@" + (char) sign, 1);
            }
        }
        // It is the first of them.
        EDGES.faulty("county @? lacks ! 7", 1);
    }

    /** Each line, token by token: what else stands there is a FAULT at its place, and so is the end. */
    private static void goesNotOn() {
        wrongAtEach("", "county", "lacks", "7", "snow", "50");
        wrongAtEach(HEAD, "sleeper", "q", "plain", "in", "0", "frail", "1");
        wrongAtEach(ONE, "awake", "q", "in", "0", "hands", "1", "reach", "0");
        wrongAtEach(ONE, "word", "q", "odds", "1", "minutes", "1");
        wrongAtEach(WORDS, "before", "a", "b");
        wrongAtEach(ONE, "order", "q", "does", "q", "rank", "1");
        wrongAtEach(ONE, "seen", "q", "does", "q");
        wrongAtEach(ONE, "seen", "q", "idle");
    }

    private static void wrongAtEach(String ahead, String... line) {
        StringBuilder text = new StringBuilder(ahead);
        for (int i = 0; i < line.length; i++) {
            String there = line[i];
            boolean free = "q".equals(there) || ahead.equals(WORDS) && i > 0;
            boolean whole = Character.isDigit(there.charAt(0));
            EDGES.faulty(text + "@", 1);
            EDGES.faulty(text + "@;", 1);
            EDGES.faulty(text + "@?", 1);
            EDGES.faulty(text + "@" + (whole ? "seven" : "7"), 1);
            EDGES.faulty(text + "@" + (whole ? "1234" : "abcdefghi"), 1);
            if (!free && !whole) {
                EDGES.faulty(text + "@" + there.substring(1), 1);
                EDGES.faulty(text + "@" + there + "s", 1);
                EDGES.faulty(text + "@x" + there.substring(1), 1);
                EDGES.faulty(text + "@" + there.substring(0, there.length() - 1) + "x", 1);
            }
            text.append(there).append(' ');
        }
        EDGES.faulty(text + "@7", 1);
        EDGES.faulty(text + "@q", 1);
        EDGES.faulty(text + "@" + line[0], 1);
    }

    private static void theEnd() {
        EDGES.faulty("@", 1);
        EDGES.faulty("  @", 1);
        EDGES.faulty("county@", 1);
        EDGES.faulty("county  @", 1);
        EDGES.faulty(ONE + "@", 1);
        EDGES.faulty(ONE + "  @", 1);
        EDGES.faulty(ONE + "seen x@", 1);
        // The end is where n is, whatever stands on THE TAPE behind it.
        SleepWords x = new SleepWords();
        Check.feed(x, HEAD + SLEEPER);
        x.county(6);
        EDGES.due("fault()", x.fault(), 1);
        EDGES.due("where()", x.where(), 6);
    }

    private static void notTold() {
        EDGES.faulty(WORDS + "before @e a", 2);
        EDGES.faulty(WORDS + "before a @e", 2);
        EDGES.faulty(WORDS + "before @e f", 2);
        EDGES.faulty(ONE + "before @a b", 2);
        EDGES.faulty(ONE + "order q does r rank 1;seen t does u;before @q r", 2);
        EDGES.faulty(WORDS + "before a @in", 2);
        String seven = WORDS + "word e odds 1 minutes 1;word f odds 1 minutes 1;word g odds 1 minutes 1;";
        EDGES.faulty(seven + "before a @h", 2);
        EDGES.faulty(seven + "before @h a", 2);
    }

    private static void otherSort() {
        String text = WORDS + "awake q in 0 hands 1 reach 0;";
        EDGES.faulty(text + "before @s a", 2);
        EDGES.faulty(text + "before a @s", 2);
        EDGES.faulty(text + "before @q a", 2);
        EDGES.faulty(text + "before a @q", 2);
        EDGES.county(text + "before a b", 1);
    }

    private static void nameAgain() {
        EDGES.faulty(ONE + "sleeper @s plain in 0 frail 1", 3);
        EDGES.faulty(ONE + "awake @s", 3);
        EDGES.faulty(ONE + "word @s", 3);
        EDGES.faulty(WORDS + "word @d odds 1 minutes 1", 3);
        EDGES.faulty(WORDS + "word @a odds 1 minutes 1", 3);
        // Signs and deeds are no names.
        EDGES.county(ONE + "order q does r rank 1;seen t does u;word q odds 1 minutes 1;word r odds 1 minutes 1;"
            + "awake t in 0 hands 1 reach 0;awake u in 0 hands 1 reach 0", 1);
    }

    private static void beforeAgain() {
        EDGES.faulty(WORDS + "before a b;before a @b", 3);
        EDGES.faulty(WORDS + "before a b;before c d;before b c;before a @b", 3);
        EDGES.county(WORDS + "before a b;before a c;before d b", 1);
        EDGES.county(WORDS + "before b c;before a b;before a c", 1);
        EDGES.faulty(WORDS + "before b c;before a b;before a c;before a @c", 3);
    }

    private static void rankAgain() {
        EDGES.faulty(ONE + "order x does y rank 9;order z does y rank 8;order x does z rank @9", 3);
        EDGES.faulty(ONE + "order x does y rank 9;order x does y rank @9", 3);
        EDGES.faulty(ONE + "order x does y rank 9;order x does y rank @009", 3);
        EDGES.county(ONE + "order x does y rank 9;order z does y rank 9;order x does z rank 8", 1);
    }

    private static void signAgain() {
        EDGES.faulty(ONE + "seen x idle;seen y idle;seen @x", 3);
        EDGES.faulty(ONE + "seen x idle;seen y idle;seen @y", 3);
        EDGES.county(ONE + "order x does y rank 1;seen x idle;order x does y rank 2", 1);
    }

    private static void countyAgain() {
        EDGES.faulty(HEAD + "@county lacks 7 snow 50", 3);
        EDGES.faulty(HEAD + "@county", 3);
        EDGES.faulty(HEAD + SLEEPER + ";  @county ?", 3);
    }

    private static void outOfBounds() {
        EDGES.faulty("county lacks @0", 4);
        EDGES.faulty("county lacks  @10 snow", 4);
        EDGES.faulty("county lacks 9 snow @101", 4);
        EDGES.faulty("county lacks 9 snow @999", 4);
    }

    private static void many() {
        // Each sort is full, and one more of each comes behind.
        for (String line : new String[] {"sleeper sh old in 1 frail 1", "awake ad in 1 hands 1 reach 1", "word wh odds 1 minutes 1",
            "before wa wd", "order x does x rank 1", "seen s idle", "seen s does x"}) {
            EDGES.faulty(States.BRIM + ";@" + line, 5);
            EDGES.faulty(States.BRIM + " ; @" + line.substring(0, line.indexOf(' ')), 5);
        }
        EDGES.faulty(States.BRIM + ";@county", 3);
    }

    private static void aheadOfCounty() {
        for (String line : new String[] {SLEEPER, "awake a in 0 hands 1 reach 0", "word a odds 1 minutes 1", "before a b",
            "order x does y rank 1", "seen x idle"}) {
            EDGES.faulty("@" + line + ";" + HEAD + SLEEPER, 6);
            EDGES.faulty("  @" + line.substring(0, line.indexOf(' ')), 6);
        }
        // A word that begins no LINE is a matter of form.
        EDGES.faulty("@does", 1);
        EDGES.faulty("@lacks 7", 1);
    }

    private static void noSleeper() {
        EDGES.faulty("county lacks 7 snow 50@", 6);
        EDGES.faulty("county lacks 7 snow 50  @", 6);
        EDGES.faulty(HEAD + "awake a in 0 hands 1 reach 0;word w odds 1 minutes 1;order x does y rank 1;seen x idle@", 6);
        EDGES.county(HEAD + "awake a in 0 hands 1 reach 0;word w odds 1 minutes 1;order x does y rank 1;seen x idle;" + SLEEPER, 1);
    }

    private static void ring() {
        EDGES.faulty(WORDS + "before a b;before b @a", 7);
        EDGES.faulty(WORDS + "before a b;before b c;before c d;before d @a", 7);
        EDGES.faulty(WORDS + "before c d;before b c;before a b;before d @a", 7);
        EDGES.faulty(WORDS + "before a b;before c d;before b c;before d @a", 7);
        EDGES.faulty(WORDS + "before a b;before c d;before b c;before d @b", 7);
        EDGES.county(WORDS + "before a b;before c d;before b c;before a d", 1);
        // A ring of all seven words.
        String seven = ONE + "word a odds 1 minutes 1;word b odds 1 minutes 1;word c odds 1 minutes 1;word d odds 1 minutes 1;"
            + "word e odds 1 minutes 1;word f odds 1 minutes 1;word g odds 1 minutes 1;"
            + "before g f;before e d;before c b;before f e;before d c;before b a";
        EDGES.due("a chain of seven", EDGES.county(seven, 1).rows(), 1);
        EDGES.faulty(seven + ";before a @g", 7);
    }
}
