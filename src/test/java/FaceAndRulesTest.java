import java.lang.reflect.Constructor;
import java.lang.reflect.Field;
import java.lang.reflect.Method;
import java.lang.reflect.Modifier;
import java.nio.file.Files;
import java.nio.file.Path;
import java.util.HashSet;
import java.util.Set;
import java.util.TreeSet;
import java.util.regex.Matcher;
import java.util.regex.Pattern;

/** The public face of the document, and those rules of LANGUAGE.md that can be seen from outside or by words. */
public final class FaceAndRulesTest {
    private static final Check CHECK = new Check("FaceAndRulesTest");
    private static final String[] FACE = {
        "addGarage(int,int)", "addMember(int)", "addPatrol(int,int,boolean)", "addRoad(int,int,int)",
        "call(int,int,int)", "callOf(int,int)", "cancel(int)", "clearText()", "count(int)", "distance(int,int)",
        "duty(int,boolean)", "fetch(int,int)", "garage(int,int)", "goHome(int)", "keep()", "member(int,int)",
        "nearest(int)", "pass(int)", "patrol(int,int)", "readCalls()", "restore()", "setPromise(int,int)",
        "setWeather(int)", "type(char)", "undo()", "waitFor(int)", "waiting(int)", "wayAt(int,int,int)",
    };
    private static final String[] CONSTANTS = {"BAD_VALUE", "FULL", "NONE", "NOT_POSSIBLE", "UNKNOWN"};
    private static final String[] WORDS_THAT_MAY_NOT_STAND = {
        "throw", "throws", "try", "catch", "finally", "synchronized", "assert", "import", "package", "native",
        "hashCode", "toString", "System\\.(?!arraycopy)", "Object", "->", "::", "String",
    };

    public static void main(String[] args) throws Exception {
        methods();
        constantsAndConstructor();
        namesOfPrivateMethods();
        sizes();
        words();
        CHECK.end();
    }

    private static void yes(String what, boolean is) {
        CHECK.due(what, is ? 1 : 0, 1);
    }

    private static void methods() {
        yes("1: the class is public and final", Modifier.isPublic(PatrolDesk.class.getModifiers())
                && Modifier.isFinal(PatrolDesk.class.getModifiers()));
        Set<String> open = new TreeSet<>();
        for (Method m : PatrolDesk.class.getDeclaredMethods()) {
            if (Modifier.isPrivate(m.getModifiers())) {
                continue;
            }
            yes(m + " is public and answers an int, of an object",
                    m.getReturnType() == int.class && m.getModifiers() == Modifier.PUBLIC);
            String parameters = java.util.Arrays.toString(m.getParameterTypes());
            open.add(m.getName() + parameters.replace("[", "(").replace("]", ")").replace(" ", ""));
        }
        yes("the methods are those of the face: " + open, open.equals(Set.of(FACE)));
    }

    private static void constantsAndConstructor() {
        Set<String> open = new TreeSet<>();
        for (Field f : PatrolDesk.class.getDeclaredFields()) {
            int is = f.getModifiers();
            if (Modifier.isStatic(is)) {
                yes("static " + f.getName() + " is final", Modifier.isFinal(is));
            }
            if (!Modifier.isPrivate(is)) {
                open.add(f.getName());
                yes(f.getName() + " is a public int", Modifier.isPublic(is) && f.getType() == int.class);
            }
        }
        yes("the constants are those of the face: " + open, open.equals(Set.of(CONSTANTS)));
        Constructor<?>[] made = PatrolDesk.class.getDeclaredConstructors();
        yes("one public constructor", made.length == 1 && made[0].getModifiers() == Modifier.PUBLIC
                && made[0].getParameterCount() == 0);
    }

    private static void namesOfPrivateMethods() {
        Set<String> open = new HashSet<>();
        for (String method : FACE) {
            open.add(method.substring(0, method.indexOf('(')));
        }
        for (Class<?> inside : PatrolDesk.class.getDeclaredClasses()) {
            yes(inside + " is static", Modifier.isStatic(inside.getModifiers()));
            for (Method m : inside.getDeclaredMethods()) {
                yes(m + " bears no public name", !open.contains(m.getName()));
            }
        }
        for (Method m : PatrolDesk.class.getDeclaredMethods()) {
            yes(m + " bears no public name",
                    !Modifier.isPrivate(m.getModifiers()) || !open.contains(m.getName()));
        }
    }

    private static void sizes() {
        Set<Class<?>> all = new HashSet<>(Set.of(PatrolDesk.class.getDeclaredClasses()));
        all.add(PatrolDesk.class);
        yes("some twelve classes: " + all.size(), all.size() <= 12);
        for (Class<?> c : all) {
            int fields = 0;
            for (Field f : c.getDeclaredFields()) {
                fields += Modifier.isStatic(f.getModifiers()) ? 0 : 1;
            }
            yes(c + " has some twenty fields: " + fields, fields <= 20);
            for (Method m : c.getDeclaredMethods()) {
                yes(m + " takes at most seven", m.getParameterCount() <= 7);
            }
        }
    }

    private static void words() throws Exception {
        String program = Files.readString(Path.of("src/main/java/PatrolDesk.java"))
                .replaceAll("(?s)/\\*.*?\\*/", "").replaceAll("//[^\n]*", "");
        for (String word : WORDS_THAT_MAY_NOT_STAND) {
            String pattern = Character.isLetter(word.charAt(0)) ? "\\b" + word + (word.endsWith(")") ? "" : "\\b")
                    : word;
            Matcher found = Pattern.compile(pattern).matcher(program);
            yes("no " + word, !found.find());
        }
        yes("no sign above 127", program.chars().allMatch(c -> c < 128));
    }
}
