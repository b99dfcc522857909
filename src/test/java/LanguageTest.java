import java.io.IOException;
import java.lang.reflect.Constructor;
import java.lang.reflect.Field;
import java.lang.reflect.Method;
import java.lang.reflect.Modifier;
import java.nio.charset.StandardCharsets;
import java.nio.file.Files;
import java.nio.file.Path;
import java.util.ArrayList;
import java.util.Arrays;
import java.util.List;
import java.util.TreeSet;

/** The face that the document tells, and those rules of LANGUAGE.md that a glance at the source can tell broken. */
public final class LanguageTest {
    private static final String[] FACE = {
        "int type(long, int)", "int clear()", "int parish()", "int ringer(int, int)", "int hour(int, int)",
        "int put(int, int, int)", "int rings(int, int)", "int take(int, int)", "int exchange(int, int)", "int now(int)",
        "int moves(int)", "int crew(int)", "int bars(int)", "int night(int)", "int best(int, int)", "int needed()",
        "int odds(int, int)", "int stands(int)", "int heard(int, int)", "int forget()", "int away(int)",
        "int mark(int, int)", "int keep(int)", "int back(int)", "int count(int)", "long trace()"};
    private static final String[] FORBIDDEN = {
        "import", "package", "throw", "throws", "try", "catch", "finally", "synchronized", "assert", "var", "yield",
        "equals", "hashCode", "toString", "Object", "Exception", "Thread", "System.out", "System.err", "Random",
        "Exact", "volatile", "transient", "native", "strictfp", "protected"};

    public static void main(String[] args) throws IOException {
        members();
        constants();
        insideClasses();
        source();
        Check.end();
    }

    private static void members() {
        TreeSet<String> due = new TreeSet<>(Arrays.asList(FACE));
        TreeSet<String> found = new TreeSet<>();
        TreeSet<String> names = new TreeSet<>();
        for (Method method : HourRingers.class.getDeclaredMethods()) {
            if (!Modifier.isPrivate(method.getModifiers())) {
                Check.isTrue(method + " is public", Modifier.isPublic(method.getModifiers()));
                List<String> takes = new ArrayList<>();
                for (Class<?> type : method.getParameterTypes()) {
                    takes.add(type.getSimpleName());
                }
                found.add(method.getReturnType() + " " + method.getName() + "(" + String.join(", ", takes) + ")");
                names.add(method.getName());
            }
        }
        Check.isTrue("the methods are " + due + ", found " + found, due.equals(found));
        for (Method method : HourRingers.class.getDeclaredMethods()) {
            if (Modifier.isPrivate(method.getModifiers())) {
                Check.isTrue(method + " bears a name of its own", !names.contains(method.getName()));
            }
        }
        Constructor<?>[] constructors = HourRingers.class.getDeclaredConstructors();
        Check.due("constructors", constructors.length, 1);
        Check.isTrue("the constructor is public", Modifier.isPublic(constructors[0].getModifiers()));
        Check.due("what the constructor takes", constructors[0].getParameterCount(), 0);
        Check.isTrue("the class is public", Modifier.isPublic(HourRingers.class.getModifiers()));
        Check.isTrue("the class is final", Modifier.isFinal(HourRingers.class.getModifiers()));
    }

    private static void constants() {
        TreeSet<String> names = new TreeSet<>();
        for (Field field : HourRingers.class.getDeclaredFields()) {
            int is = field.getModifiers();
            if (!Modifier.isPrivate(is)) {
                Check.isTrue(field + " is a constant", Modifier.isPublic(is) && Modifier.isStatic(is) && Modifier.isFinal(is));
                Check.isTrue(field + " is an int", field.getType() == int.class);
                names.add(field.getName());
            }
        }
        Check.isTrue("the constants " + names, names.equals(new TreeSet<>(Arrays.asList("BAD", "STATE", "FULL", "NONE", "NO"))));
        Check.due("BAD", HourRingers.BAD, -1);
        Check.due("STATE", HourRingers.STATE, -2);
        Check.due("FULL", HourRingers.FULL, -3);
        Check.due("NONE", HourRingers.NONE, -9);
        Check.due("NO", HourRingers.NO, -1000000);
    }

    private static void insideClasses() {
        Class<?>[] inside = HourRingers.class.getDeclaredClasses();
        Check.isTrue("some twelve classes", inside.length <= 11);
        for (Class<?> one : inside) {
            int is = one.getModifiers();
            Check.isTrue(one + " is static", Modifier.isStatic(is));
            Check.isTrue(one + " is not public", !Modifier.isPublic(is) && !Modifier.isProtected(is));
            int fields = 0;
            for (Field field : one.getDeclaredFields()) {
                boolean isStatic = Modifier.isStatic(field.getModifiers());
                fields += isStatic ? 0 : 1;
                Check.isTrue(field + " is final if static", !isStatic || Modifier.isFinal(field.getModifiers()));
            }
            Check.isTrue(one + " has some twenty fields", fields <= 20);
        }
    }

    private static void source() throws IOException {
        String text = Files.readString(Path.of("src/main/java/HourRingers.java"), StandardCharsets.UTF_8);
        Check.isTrue("the signs are 1 to 127", text.chars().allMatch(c -> c >= 1 && c <= 127));
        String code = text.replaceAll("(?s)/\\*.*?\\*/", " ").replaceAll("//[^\n]*", " ").replaceAll("\"[^\"\n]*\"", "\"\"");
        for (String word : FORBIDDEN) {
            boolean stands = code.matches("(?s).*\\b" + word.replace(".", "\\.") + "\\b.*");
            Check.isTrue("no " + word, !stands);
        }
        Check.isTrue("no lambda", !code.contains("->"));
        Check.isTrue("no method reference", !code.contains("::"));
        Check.isTrue("no annotation", !code.contains("@"));
        for (String line : code.split("\n")) {
            if (line.contains("new ")) {
                // All rows are made in constructors: nothing that a call makes fills the room.
                boolean isField = line.matches(" *(private )?(final )?\\w+(\\[\\])? \\w+ = new \\w+(\\(\\)|\\[[A-Z_ *]+\\]);");
                Check.isTrue("made in a constructor: " + line.trim(), isField || line.trim().equals("images[i] = new Rota();"));
            }
        }
    }
}
