import java.io.IOException;
import java.lang.reflect.Constructor;
import java.lang.reflect.Field;
import java.lang.reflect.Method;
import java.lang.reflect.Modifier;
import java.nio.charset.StandardCharsets;
import java.nio.file.Files;
import java.nio.file.Path;
import java.util.ArrayList;
import java.util.Arrays;
import java.util.List;
import java.util.Map;
import java.util.TreeMap;
import java.util.TreeSet;
import java.util.regex.Matcher;
import java.util.regex.Pattern;

/** The face that the document tells, and those rules of LANGUAGE.md that a glance at the source can tell broken. */
public final class LanguageTest {
    private static final String[] FACE = {
        "int type(long, int)", "int clear()", "int parish()", "int ringer(int, int)", "int hour(int, int)",
        "int put(int, int, int)", "int rings(int, int)", "int take(int, int)", "int exchange(int, int)", "int now(int)",
        "int moves(int)", "int crew(int)", "int bars(int)", "int night(int)", "int best(int, int)", "int needed()",
        "int odds(int, int)", "int stands(int)", "int heard(int, int)", "int forget()", "int away(int)",
        "int mark(int, int)", "int keep(int)", "int back(int)", "int count(int)", "long trace()"};
    private static final String[] FORBIDDEN = {
        "import", "package", "throw", "throws", "try", "catch", "finally", "synchronized", "assert", "var", "yield",
        "equals", "hashCode", "toString", "Object", "Exception", "Thread", "System.out", "System.err", "Random",
        "Exact", "volatile", "transient", "native", "strictfp", "protected"};
    private static final List<String> LIBRARY = List.of(
        "Integer.bitCount", "Math.abs", "Math.min", "Math.max", "System.arraycopy");

    public static void main(String[] args) throws IOException {
        members();
        constants();
        insideClasses();
        String code = source();
        library(code);
        methods(code);
        Check.end();
    }

    private static void members() {
        TreeSet<String> due = new TreeSet<>(Arrays.asList(FACE));
        TreeSet<String> found = new TreeSet<>();
        TreeSet<String> names = new TreeSet<>();
        for (Method method : HourRingers.class.getDeclaredMethods()) {
            if (!Modifier.isPrivate(method.getModifiers())) {
                Check.isTrue(method + " is public", Modifier.isPublic(method.getModifiers()));
                List<String> takes = new ArrayList<>();
                for (Class<?> type : method.getParameterTypes()) {
                    takes.add(type.getSimpleName());
                }
                found.add(method.getReturnType() + " " + method.getName() + "(" + String.join(", ", takes) + ")");
                names.add(method.getName());
            }
        }
        Check.isTrue("the methods are " + due + ", found " + found, due.equals(found));
        for (Method method : HourRingers.class.getDeclaredMethods()) {
            if (Modifier.isPrivate(method.getModifiers())) {
                Check.isTrue(method + " bears a name of its own", !names.contains(method.getName()));
            }
        }
        Constructor<?>[] constructors = HourRingers.class.getDeclaredConstructors();
        Check.due("constructors", constructors.length, 1);
        Check.isTrue("the constructor is public", Modifier.isPublic(constructors[0].getModifiers()));
        Check.due("what the constructor takes", constructors[0].getParameterCount(), 0);
        Check.isTrue("the class is public", Modifier.isPublic(HourRingers.class.getModifiers()));
        Check.isTrue("the class is final", Modifier.isFinal(HourRingers.class.getModifiers()));
    }

    private static void constants() {
        TreeSet<String> names = new TreeSet<>();
        for (Field field : HourRingers.class.getDeclaredFields()) {
            int is = field.getModifiers();
            if (!Modifier.isPrivate(is)) {
                Check.isTrue(field + " is a constant", Modifier.isPublic(is) && Modifier.isStatic(is) && Modifier.isFinal(is));
                Check.isTrue(field + " is an int", field.getType() == int.class);
                names.add(field.getName());
            }
        }
        Check.isTrue("the constants " + names, names.equals(new TreeSet<>(Arrays.asList("BAD", "STATE", "FULL", "NONE", "NO"))));
        Check.due("BAD", HourRingers.BAD, -1);
        Check.due("STATE", HourRingers.STATE, -2);
        Check.due("FULL", HourRingers.FULL, -3);
        Check.due("NONE", HourRingers.NONE, -9);
        Check.due("NO", HourRingers.NO, -1000000);
    }

    private static void insideClasses() {
        Class<?>[] inside = HourRingers.class.getDeclaredClasses();
        Check.isTrue("some twelve classes", inside.length <= 11);
        for (Class<?> one : inside) {
            int is = one.getModifiers();
            Check.isTrue(one + " is static", Modifier.isStatic(is));
            Check.isTrue(one + " is not public", !Modifier.isPublic(is) && !Modifier.isProtected(is));
            int fields = 0;
            for (Field field : one.getDeclaredFields()) {
                boolean isStatic = Modifier.isStatic(field.getModifiers());
                fields += isStatic ? 0 : 1;
                Check.isTrue(field + " is final if static", !isStatic || Modifier.isFinal(field.getModifiers()));
            }
            Check.isTrue(one + " has some twenty fields", fields <= 20);
        }
    }

    private static String source() throws IOException {
        String text = Files.readString(Path.of("src/main/java/HourRingers.java"), StandardCharsets.UTF_8);
        Check.isTrue("the signs are 1 to 127", text.chars().allMatch(c -> c >= 1 && c <= 127));
        String code = text.replaceAll("(?s)/\\*.*?\\*/", " ").replaceAll("//[^\n]*", " ").replaceAll("\"[^\"\n]*\"", "\"\"");
        for (String word : FORBIDDEN) {
            boolean stands = code.matches("(?s).*\\b" + word.replace(".", "\\.") + "\\b.*");
            Check.isTrue("no " + word, !stands);
        }
        Check.isTrue("no lambda", !code.contains("->"));
        Check.isTrue("no method reference", !code.contains("::"));
        Check.isTrue("no annotation", !code.contains("@"));
        for (String line : code.split("\n")) {
            if (line.contains("new ")) {
                // All rows are made in constructors: nothing that a call makes fills the room.
                boolean isField = line.matches(" *(private )?(final )?\\w+(\\[\\])? \\w+ = new \\w+(\\(\\)|\\[[A-Z_ *]+\\]);");
                Check.isTrue("made in a constructor: " + line.trim(), isField || line.trim().equals("images[i] = new Rota();"));
            }
        }
        return code;
    }

    private static void library(String code) {
        Matcher use = Pattern.compile("\\b([A-Z]\\w*[a-z]\\w*)\\.(\\w+)").matcher(code);
        TreeSet<String> own = new TreeSet<>();
        for (Class<?> one : HourRingers.class.getDeclaredClasses()) {
            own.add(one.getSimpleName());
        }
        while (use.find()) {
            Check.isTrue(use.group() + " is told by rule 4", own.contains(use.group(1)) || LIBRARY.contains(use.group()));
        }
    }

    /** Rules 8 and 11: how long methods are, what they take, how deep they call one another, which call themselves. */
    private static void methods(String code) {
        Map<String, String> bodies = new TreeMap<>();
        Matcher method = Pattern.compile("(?m)^( {4}| {8})(?:(?:public|private|static|final) )*\\w+(?:\\[\\])? (\\w+)\\(([^)]*)\\) \\{$").matcher(code);
        while (method.find()) {
            int end = code.indexOf("\n" + method.group(1) + "}\n", method.end());
            String body = code.substring(method.end(), end + 1);
            String name = method.group(2);
            Check.isTrue(name + " is short", body.chars().filter(c -> c == '\n').count() <= 60);
            Check.isTrue(name + " takes seven at most", method.group(3).split(",").length <= 7);
            if (body.matches("(?s).*\\b" + name + "\\(.*")) {
                Check.isTrue(name + " calls itself: private static", method.group().trim().startsWith("private static "));
            }
            // Methods of one name in several classes are taken for one that calls what each calls.
            bodies.merge(name, body, String::concat);
        }
        Check.isTrue("many methods were found", bodies.size() > 80);
        for (String name : bodies.keySet()) {
            Check.isTrue(name + " calls eight deep at most", depth(name, bodies, 0) <= 8);
        }
    }

    private static int depth(String name, Map<String, String> bodies, int ahead) {
        Check.isTrue(name + " is in no round of calls", ahead < 40);
        if (ahead >= 40) {
            return ahead;
        }
        int deepest = 0;
        Matcher call = Pattern.compile("\\b(\\w+)\\(").matcher(bodies.get(name));
        while (call.find()) {
            String called = call.group(1);
            if (bodies.containsKey(called) && !called.equals(name)) {
                deepest = Math.max(deepest, depth(called, bodies, ahead + 1));
            }
        }
        return 1 + deepest;
    }
}
