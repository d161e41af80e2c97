import java.lang.reflect.Constructor;
import java.lang.reflect.Field;
import java.lang.reflect.Method;
import java.lang.reflect.Modifier;
import java.util.Arrays;
import java.util.List;
import java.util.NoSuchElementException;
import java.util.TreeSet;

/** The public face, to the letter, and nothing beside it. */
public final class FaceTest {
    private static final Check CHECK = new Check("FaceTest");
    private static final List<String> METHODS = Arrays.asList(
        "int feed(int,int,int,int,int)", "int county(int)", "int fault()", "int where()",
        "int counts(int)", "int really(int)", "int sum(int,int)",
        "int sleeper(int,int)", "int awake(int,int)", "int harmOf(int)", "int harm()", "int harmed()", "int worst()",
        "int tending()", "int tendedBy(int)", "int left()", "int worthOf(int)", "int bestHand()",
        "int word(int,int)", "long chance(int,boolean)", "long mean(boolean)", "int searchAt(int)",
        "long meanFirst(int,boolean)", "long within(int,boolean)", "int withinWords(int)", "int next()", "int rows()",
        "int fits()", "int could()", "int surely()", "int ask()", "int askLeaves()", "int judge()",
        "int together(int)", "int clash()",
        "int envoys(int,int,int,boolean)", "int rests(int)", "int rest(int)",
        "int winters(int,int)", "int wintersOf(int,int,int)", "int above(int,int,int)",
        "boolean tend(int,int)", "int day()", "int say(int)", "boolean seed(int)", "boolean undo()", "int image()",
        "boolean back(int)", "int led(int)", "int size(int)", "int trouble()");

    public static void main(String[] args) throws Exception {
        CHECK.due("public and final", Modifier.isPublic(SleepWords.class.getModifiers())
            && Modifier.isFinal(SleepWords.class.getModifiers()), true);
        methods();
        fields();
        Constructor<?>[] constructors = SleepWords.class.getDeclaredConstructors();
        CHECK.due("constructors", constructors.length, 1);
        CHECK.due("its parameters", constructors[0].getParameterCount(), 0);
        CHECK.due("it is public", Modifier.isPublic(constructors[0].getModifiers()), true);
        for (Class<?> inside : SleepWords.class.getDeclaredClasses()) {
            int m = inside.getModifiers();
            CHECK.due(inside + " static", Modifier.isStatic(m), true);
            CHECK.due(inside + " not public or protected", Modifier.isPublic(m) || Modifier.isProtected(m), false);
        }
        Class<?>[] thrown = SleepWords.class.getMethod("led", int.class).getExceptionTypes();
        CHECK.due("led throws", thrown.length == 1 && thrown[0] == NoSuchElementException.class, true);
        CHECK.end();
    }

    private static void methods() {
        TreeSet<String> found = new TreeSet<>();
        TreeSet<String> open = new TreeSet<>();
        for (Method m : SleepWords.class.getDeclaredMethods()) {
            if (Modifier.isPublic(m.getModifiers())) {
                StringBuilder face = new StringBuilder(m.getReturnType() + " " + m.getName() + "(");
                for (Class<?> p : m.getParameterTypes()) {
                    face.append(face.charAt(face.length() - 1) == '(' ? "" : ",").append(p);
                }
                found.add(face.append(")").toString());
                open.add(m.getName());
                CHECK.due(m + " not static", Modifier.isStatic(m.getModifiers()), false);
            } else {
                CHECK.due(m + " private", Modifier.isPrivate(m.getModifiers()), true);
            }
        }
        for (Method m : SleepWords.class.getDeclaredMethods()) {
            if (!Modifier.isPublic(m.getModifiers()) && open.contains(m.getName())) {
                CHECK.fail(m + " bears the name of a public method");
            }
        }
        TreeSet<String> want = new TreeSet<>(METHODS);
        if (!found.equals(want)) {
            CHECK.fail("the public methods are " + found + ", due are " + want);
        }
        CHECK.due("public methods", found.size(), 51);
    }

    private static void fields() throws Exception {
        for (Field f : SleepWords.class.getDeclaredFields()) {
            if (!Modifier.isPrivate(f.getModifiers())) {
                CHECK.due("the one open field is NONE: " + f, f.getName().equals("NONE"), true);
            }
        }
        CHECK.due("NONE", SleepWords.NONE, -1);
        CHECK.due("NONE is public static final", SleepWords.class.getField("NONE").getModifiers(),
            Modifier.PUBLIC | Modifier.STATIC | Modifier.FINAL);
    }
}
