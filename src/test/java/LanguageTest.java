import java.lang.reflect.Constructor;
import java.lang.reflect.Field;
import java.lang.reflect.Method;
import java.lang.reflect.Modifier;
import java.nio.file.Files;
import java.nio.file.Path;
import java.util.ArrayList;
import java.util.HashMap;
import java.util.List;
import java.util.Map;
import java.util.Set;
import java.util.TreeSet;
import java.util.regex.Matcher;
import java.util.regex.Pattern;

/** Those rules of LANGUAGE.md that can be seen from the program's text and by reflection. */
public final class LanguageTest {
    private static final Check CHECK = new Check("LanguageTest");
    private static final String SOURCE = "src/main/java/NumberEleven.java";
    private static final Set<String> FACE = Set.of("write(int)", "wipe()", "fault()", "lay()", "caller(int,int)",
        "pass(int)", "hang(int)", "recall(int)", "staff(int)", "rule(int)", "undo()", "behind(int,int)", "taken(int)",
        "left(int)", "number(int)", "again(int,int)", "best(int)", "needed()", "lost()", "helps(int)", "longest(int)",
        "seen(int,int,int)", "forget()", "bears(int,int)", "kinds(int)", "likely(int,int,int)", "day(int,int,int)",
        "keep()", "back()", "count(int)");
    private static final Set<String> CONSTANTS = Set.of("BAD", "NO", "FULL", "NONE");

    public static void main(String[] args) throws Exception {
        face();
        fields();
        insideClasses();
        String code = bare(Files.readString(Path.of(SOURCE)));
        noForbiddenWords(code);
        methodsAreShort(code);
        callsAreShallow(code);
        CHECK.end();
    }

    private static boolean isOutside(int modifiers) {
        return !Modifier.isPrivate(modifiers);
    }

    /** Rule 1. */
    private static void face() {
        Class<?> program = NumberEleven.class;
        CHECK.due("public and final", program.getModifiers() & (Modifier.PUBLIC | Modifier.FINAL),
            Modifier.PUBLIC | Modifier.FINAL);
        Set<String> names = new TreeSet<>();
        for (String call : FACE) {
            names.add(call.substring(0, call.indexOf('(')));
        }
        int found = 0;
        for (Method method : program.getDeclaredMethods()) {
            String call = method.toString().replaceAll(".*NumberEleven\\.", "").replaceAll(" throws.*", "");
            if (isOutside(method.getModifiers())) {
                CHECK.due("in the face: " + call, FACE.contains(call) ? 1 : 0, 1);
                CHECK.due("public: " + call, Modifier.isPublic(method.getModifiers()) ? 1 : 0, 1);
                CHECK.due("answers int: " + call, method.getReturnType() == int.class ? 1 : 0, 1);
                found++;
            } else {
                CHECK.due("no name of the face: " + call, names.contains(method.getName()) ? 1 : 0, 0);
            }
        }
        CHECK.due("methods of the face", found, FACE.size());
        Constructor<?>[] constructors = program.getDeclaredConstructors();
        CHECK.due("constructors", constructors.length, 1);
        CHECK.due("numbers for it", constructors[0].getParameterCount(), 0);
    }

    /** Rules 1, 5, 11. */
    private static void fields() {
        List<Class<?>> classes = new ArrayList<>(List.of(NumberEleven.class.getDeclaredClasses()));
        CHECK.due("classes are few", classes.size() <= 12 ? 1 : 0, 1);
        classes.add(NumberEleven.class);
        for (Class<?> type : classes) {
            int ofObject = 0;
            for (Field field : type.getDeclaredFields()) {
                if (Modifier.isStatic(field.getModifiers())) {
                    CHECK.due("final: " + field, Modifier.isFinal(field.getModifiers()) ? 1 : 0, 1);
                } else {
                    ofObject++;
                }
                if (type == NumberEleven.class && isOutside(field.getModifiers())) {
                    CHECK.due("a constant of the face: " + field, CONSTANTS.contains(field.getName()) ? 1 : 0, 1);
                }
            }
            CHECK.due("fields are few: " + type, ofObject <= 20 ? 1 : 0, 1);
        }
    }

    /** Rule 2; and no method inside bears a name of the face either. */
    private static void insideClasses() {
        for (Class<?> type : NumberEleven.class.getDeclaredClasses()) {
            CHECK.due("static: " + type, Modifier.isStatic(type.getModifiers()) ? 1 : 0, 1);
            for (Method method : type.getDeclaredMethods()) {
                for (String call : FACE) {
                    CHECK.due(method + " bears no name of the face", call.startsWith(method.getName() + "(") ? 1 : 0, 0);
                }
                CHECK.due("at most seven: " + method, method.getParameterCount() <= 7 ? 1 : 0, 1);
            }
        }
    }

    /** Without comments and what stands between quotes. */
    private static String bare(String source) {
        return source.replaceAll("(?s)/\\*.*?\\*/", " ").replaceAll("//[^\n]*", " ").replaceAll("\"[^\"\n]*\"", "TEXT")
            .replaceAll("'[^'\n]+'", "SIGN");
    }

    /** Rules 2, 4, 6, 13. */
    private static void noForbiddenWords(String code) {
        String[] words = {"\\bthrow\\b", "\\btry\\b", "\\bcatch\\b", "\\bassert\\b", "\\bsynchronized\\b", "\\bimport\\b",
            "\\bpackage\\b", "\\bprotected\\b", "\\bvolatile\\b", "->", "::", "\\bvar\\b", "Exact\\b", "\\bequals\\b",
            "\\bhashCode\\b", "\\btoString\\b", "\\bThread\\b", "\\bnanoTime\\b", "\\bcurrentTimeMillis\\b", "\\brandom\\b",
            "\\bdouble\\b", "\\bfloat\\b", "\\binstanceof\\b", "\\bObject\\b", "@"};
        for (String word : words) {
            CHECK.due("forbidden: " + word, Pattern.compile(word).matcher(code).find() ? 1 : 0, 0);
        }
    }

    private static Map<String, String> bodies(String code) {
        Matcher head = Pattern.compile("\\n +(?:(?:public|private|static) )*[\\w\\[\\]]+ (\\w+)\\([^)]*\\) \\{\\n").matcher(code);
        Map<String, String> bodies = new HashMap<>();
        while (head.find()) {
            String name = head.group(1);
            if (!name.equals("if") && !name.equals("for") && !name.equals("switch")) {
                String body = code.substring(head.end(), endOf(code, head.end()));
                bodies.merge(name, body, String::concat);
            }
        }
        return bodies;
    }

    private static int endOf(String code, int start) {
        int open = 1;
        int place = start;
        while (open > 0) {
            char sign = code.charAt(place);
            open += sign == '{' ? 1 : sign == '}' ? -1 : 0;
            place++;
        }
        return place;
    }

    /** Rule 11: some sixty lines. */
    private static void methodsAreShort(String code) {
        Map<String, String> bodies = bodies(code);
        CHECK.due("methods are found", bodies.size() > 60 ? 1 : 0, 1);
        bodies.forEach((name, body) -> CHECK.due("short: " + name, body.lines().count() <= 60 ? 1 : 0, 1));
    }

    /** Rules 8, 11: no recursion here, and at most eight calls deep (methods of one name are taken together). */
    private static void callsAreShallow(String code) {
        Map<String, String> bodies = bodies(code);
        for (String name : bodies.keySet()) {
            CHECK.due("at most eight deep: " + name, depth(bodies, name, 1) <= 8 ? 1 : 0, 1);
        }
    }

    private static int depth(Map<String, String> bodies, String name, int level) {
        int deepest = level;
        Matcher call = Pattern.compile("\\b(\\w+)\\(").matcher(bodies.get(name));
        while (level <= 8 && call.find()) {
            if (bodies.containsKey(call.group(1))) {
                deepest = Math.max(deepest, depth(bodies, call.group(1), level + 1));
            }
        }
        return deepest;
    }
}
