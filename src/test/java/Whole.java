import java.util.NoSuchElementException;

/**
 * All that an object can tell, down to what undoing and images bring back and what THE TAPE holds, as a text with a line
 * for each answer. Telling it uses the object up: it takes some 350 calls at the most, so that 512 are enough for making
 * a state, too.
 */
final class Whole {
    private final SleepWords x;
    private final StringBuilder lines = new StringBuilder();

    private Whole(SleepWords x) {
        this.x = x;
    }

    static String of(SleepWords x) {
        Whole whole = new Whole(x);
        whole.put("fault()", x.fault());
        whole.put("size(13)", x.size(13));
        whole.putCounty();
        whole.putNow();
        whole.putPast();
        whole.putTape();
        return whole.lines.toString();
    }

    /** All but the FAULT and THE TAPE, which county() changes when it is refused by 4. */
    static String ofCounty(SleepWords x) {
        Whole whole = new Whole(x);
        whole.putCounty();
        whole.putNow();
        whole.putPast();
        return whole.lines.toString();
    }

    /** The first line that is unlike, or nothing. */
    static String difference(String got, String want) {
        String[] some = got.split("\n");
        String[] others = want.split("\n");
        for (int i = 0; i < Math.max(some.length, others.length); i++) {
            String one = i < some.length ? some[i] : "nothing";
            String other = i < others.length ? others[i] : "nothing";
            if (!one.equals(other)) {
                return one + ", due is " + other;
            }
        }
        return "";
    }

    private void put(String call, long answer) {
        lines.append(call).append(" = ").append(answer).append('\n');
    }

    private void putCounty() {
        for (int what = 0; what <= 12; what++) {
            put("size(" + what + ")", x.size(what));
        }
        int sleepers = x.size(2);
        for (int s = 0; s < sleepers; s++) {
            for (int what : new int[] {0, 1, 2, 5}) {
                put("sleeper(" + s + ", " + what + ")", x.sleeper(s, what));
            }
            put("tendedBy(" + s + ")", x.tendedBy(s));
        }
        int awake = x.size(3);
        for (int a = 0; a < awake; a++) {
            for (int what : new int[] {0, 1, 2}) {
                put("awake(" + a + ", " + what + ")", x.awake(a, what));
            }
            put("worthOf(" + a + ")", x.worthOf(a));
        }
        int words = x.size(4);
        for (int w = 0; w < words; w++) {
            for (int what : new int[] {0, 1, 3}) {
                put("word(" + w + ", " + what + ")", x.word(w, what));
            }
        }
        put("counts(99)", x.counts(99));
        put("tending()", x.tending());
        put("left()", x.left());
        put("bestHand()", x.bestHand());
        put("fits()", x.fits());
        put("could()", x.could());
        put("surely()", x.surely());
        put("ask()", x.ask());
        put("askLeaves()", x.askLeaves());
        put("judge()", x.judge());
        put("clash()", x.clash());
        put("together()", x.together((1 << x.size(6)) - 1));
        put("winters(0, 90)", x.winters(0, 90));
    }

    /** What ACTS change. */
    private void putNow() {
        for (int what = 8; what <= 10; what++) {
            put("NOW size(" + what + ")", x.size(what));
        }
        int sleepers = x.size(2);
        for (int s = 0; s < sleepers; s++) {
            put("NOW sleeper(" + s + ", 3)", x.sleeper(s, 3));
            put("NOW sleeper(" + s + ", 4)", x.sleeper(s, 4));
        }
        put("NOW harm()", x.harm());
        put("NOW harmed()", x.harmed());
        put("NOW worst()", x.worst());
        put("NOW mean(false)", x.mean(false));
        put("NOW mean(true)", x.mean(true));
        put("NOW searchAt(0)", x.searchAt(0));
        put("NOW withinWords(30)", x.withinWords(30));
        put("NOW next()", x.next());
        put("NOW rows()", x.rows());
        putLed();
    }

    private void putLed() {
        try {
            for (int i = 0; i <= 7; i++) {
                put("NOW led(" + i + ")", x.led(i));
            }
        } catch (NoSuchElementException e) {
            lines.append("NOW no more were said\n");
        }
    }

    private void putPast() {
        int undone = 0;
        while (x.undo()) {
            undone++;
            lines.append("undone ").append(undone).append('\n');
            putShort();
        }
        for (int image = 0; image < 3 && x.back(image); image++) {
            lines.append("image ").append(image).append('\n');
            putNow();
        }
    }

    /** What ACTS change, in few calls. */
    private void putShort() {
        put("size(8)", x.size(8));
        put("size(9)", x.size(9));
        put("size(10)", x.size(10));
        put("harmed()", x.harmed());
        put("harm()", x.harm());
        put("next()", x.next());
        put("rows()", x.rows());
    }

    private void putTape() {
        put("county()", x.county(x.size(13)));
        put("fault() of THE TAPE", x.fault());
        put("where() of THE TAPE", x.where());
        put("size(0) of THE TAPE", x.size(0));
    }
}
