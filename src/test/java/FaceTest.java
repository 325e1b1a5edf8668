import java.io.IOException;
import java.lang.management.ManagementFactory;
import java.lang.reflect.Constructor;
import java.lang.reflect.Field;
import java.lang.reflect.Method;
import java.lang.reflect.Modifier;
import java.nio.file.Files;
import java.nio.file.Path;
import java.util.Set;
import java.util.TreeSet;
import java.util.regex.Matcher;
import java.util.regex.Pattern;

/** The public face, the rules of LANGUAGE.md that can be seen from outside, and the room that calls take. */
public final class FaceTest {
    private static final Set<String> FACE = new TreeSet<>(Set.of(
        "int step(int)", "int back(int)", "int way(int)", "int place(int,boolean)", "int draw(int,int)",
        "int word(int,int,int)", "int straight(int,int)", "int span(int,int,boolean,boolean)",
        "int plain(int,int,boolean)", "int longest(boolean)", "int pieces()", "int pieceEnd(int)",
        "int ground(int,int)", "int set(int,boolean)", "int has(int)", "int fill(int,boolean)", "int heap(int)",
        "int is(int)", "int disc(int)", "int part(int)", "int hull()", "int corner(int)", "int deep(int)",
        "int deepest(boolean)", "int needed(int)", "int balls()", "int loose(int)", "int thinning()", "int thin()",
        "int count(int)"));
    private static final String SOURCE = "src/main/java/StraightSteps.java";
    private static final String NOT_ALLOWED = "\\b(throw|throws|try|catch|finally|synchronized|assert|import|package"
        + "|native|volatile|transient|System\\.out|Random|Thread|protected)\\b|->|::|\\w+Exact\\b";
    /** Of the library only functions that rule 4 lists: no constants of Integer, no other class. */
    private static final String LIBRARY = "\\b(?!(?:Math|Integer)\\.[a-z]\\w*\\()[A-Z]\\w*[a-z]\\w*\\.\\w+";

    private FaceTest() {
    }

    public static void main(String[] args) throws IOException {
        methods();
        fields();
        inside();
        source();
        room();
        Checks.end("FaceTest");
    }

    private static void methods() {
        Set<String> seen = new TreeSet<>();
        Set<String> names = namesOfFace();
        for (Method m : StraightSteps.class.getDeclaredMethods()) {
            if (Modifier.isPrivate(m.getModifiers())) {
                Checks.holds("private " + m.getName() + " has a name of its own", !names.contains(m.getName()));
            } else {
                Checks.holds(m.getName() + " is public", Modifier.isPublic(m.getModifiers()));
                seen.add(written(m));
            }
        }
        Checks.holds("the methods are those of the face: " + seen, seen.equals(FACE));
        Constructor<?>[] makers = StraightSteps.class.getDeclaredConstructors();
        Checks.same("constructors", makers.length, 1);
        Checks.same("their parameters", makers[0].getParameterCount(), 0);
        Checks.holds("it is public", Modifier.isPublic(makers[0].getModifiers()));
        int modifiers = StraightSteps.class.getModifiers();
        Checks.holds("public and final", Modifier.isPublic(modifiers) && Modifier.isFinal(modifiers));
    }

    private static Set<String> namesOfFace() {
        Set<String> names = new TreeSet<>();
        for (String method : FACE) {
            names.add(method.substring(4, method.indexOf('(')));
        }
        return names;
    }

    private static String written(Method m) {
        StringBuilder text = new StringBuilder(m.getReturnType() + " " + m.getName() + "(");
        for (Class<?> type : m.getParameterTypes()) {
            text.append(text.charAt(text.length() - 1) == '(' ? "" : ",").append(type);
        }
        return text.append(")").toString();
    }

    private static void fields() {
        Set<String> constants = Set.of("UNKNOWN", "BAD", "STATE", "FULL", "NONE");
        for (Field f : StraightSteps.class.getDeclaredFields()) {
            int modifiers = f.getModifiers();
            Checks.holds(f.getName() + " is public only as a constant",
                constants.contains(f.getName()) ? Modifier.isPublic(modifiers) : Modifier.isPrivate(modifiers));
            Checks.holds(f.getName() + " is final if static",
                !Modifier.isStatic(modifiers) || Modifier.isFinal(modifiers));
        }
        Checks.same("UNKNOWN", StraightSteps.UNKNOWN, -1001);
        Checks.same("BAD", StraightSteps.BAD, -1002);
        Checks.same("STATE", StraightSteps.STATE, -1003);
        Checks.same("FULL", StraightSteps.FULL, -1004);
        Checks.same("NONE", StraightSteps.NONE, -999);
    }

    private static void inside() {
        Class<?>[] inside = StraightSteps.class.getDeclaredClasses();
        Checks.holds("at most twelve classes", inside.length + 1 <= 12);
        for (Class<?> c : inside) {
            Checks.holds(c + " is static", Modifier.isStatic(c.getModifiers()));
            Checks.holds(c + " is not public", !Modifier.isPublic(c.getModifiers()));
            for (Field f : c.getDeclaredFields()) {
                Checks.holds(c + "." + f.getName() + " is final if static",
                    !Modifier.isStatic(f.getModifiers()) || Modifier.isFinal(f.getModifiers()));
            }
            for (Method m : c.getDeclaredMethods()) {
                Checks.holds(c + "." + m.getName() + " takes at most seven", m.getParameterCount() <= 7);
                Checks.holds(c + "." + m.getName() + " has a name of its own",
                    !Modifier.isPrivate(m.getModifiers()) || !namesOfFace().contains(m.getName()));
            }
        }
    }

    private static void source() throws IOException {
        String text = Files.readString(Path.of(SOURCE));
        Checks.holds("only signs 1 to 127", text.chars().allMatch(c -> c > 0 && c < 128));
        String code = text.replaceAll("(?s)/\\*.*?\\*/", "").replaceAll("//[^\n]*", "");
        notIn(code, NOT_ALLOWED);
        notIn(code, LIBRARY);
        Checks.holds("some code", code.contains("public final class StraightSteps"));
    }

    private static void notIn(String code, String pattern) {
        Matcher found = Pattern.compile(pattern).matcher(code);
        while (found.find()) {
            Checks.holds("not in the language: " + found.group(), false);
        }
    }

    /** What an object needs is made with it: a call makes nothing. */
    private static void room() {
        var threads = (com.sun.management.ThreadMXBean) ManagementFactory.getThreadMXBean();
        StraightSteps x = new StraightSteps();
        long warm = threads.getCurrentThreadAllocatedBytes() + everyCall(x);
        long before = threads.getCurrentThreadAllocatedBytes();
        long sum = 0;
        for (int n = 0; n < 10; n++) {
            sum += everyCall(x);
        }
        long made = threads.getCurrentThreadAllocatedBytes() - before;
        Checks.holds("calls make nothing, but made " + made + " bytes", made < 200 && warm + sum != 0);
    }

    private static long everyCall(StraightSteps x) {
        long sum = x.ground(9, 7) + x.back(60) + x.step(1) + x.draw(3, 1) + x.draw(-3, -1) + x.step(5);
        sum += x.way(0) + x.place(1, true) + x.word(9, 4, 3) + x.straight(0, 4) + x.span(0, 4, true, true);
        sum += x.plain(0, 4, false) + x.longest(true) + x.pieces() + x.pieceEnd(0) + x.set(4, true) + x.has(4);
        sum += x.fill(10, true) + x.part(10) + x.hull() + x.corner(1) + x.deep(10) + x.deepest(true);
        for (int what = 0; what < 5; what++) {
            sum += x.heap(what) + x.is(what) + x.disc(what) + x.count(what);
        }
        return sum + x.needed(10) + x.balls() + x.loose(10) + x.thinning() + x.thin();
    }
}
