import java.lang.reflect.Constructor;
import java.lang.reflect.Field;
import java.lang.reflect.Method;
import java.lang.reflect.Modifier;
import java.nio.file.Files;
import java.nio.file.Path;
import java.util.Arrays;
import java.util.List;
import java.util.Set;
import java.util.TreeSet;
import java.util.regex.Matcher;
import java.util.regex.Pattern;

/** The public face, and the rules of the language that can be seen from the class and its source. */
public final class FaceTest {
    private static final Path SOURCE = Path.of("src/main/java/EvenVoyage.java");
    private static final String[] FACE = {
        "type(int)", "clear()", "tells(int)", "sails(int)", "holds(int, int)", "moves(int, int, int, int)",
        "fastens(int, int)", "undo()", "ship(int, int)", "leg(int, int, int)", "plan(int, int)",
        "time(int, int, int)", "speed(int, int, int)", "closed(int, int)", "cost(int, int)", "slack(int)",
        "needs(int)", "eased(int)", "mile(int, int)", "sees(int, int)", "forget()", "which()", "look()",
        "keep(int)", "back(int)", "count(int)"};
    private static final String[] CONSTANTS = {"BAD", "STATE", "FULL", "NONE", "NO", "NOT"};
    private static final int[] VALUES = {-1, -2, -3, -9, -1000000, -2000000};
    private static final List<String> FORBIDDEN = List.of(
        "throw", "throws", "try", "catch", "finally", "synchronized", "assert", "->", "::", "Exact", "double",
        "float", "Object", "volatile", "package", "String", "random", "System.out", "static {");
    private static final int MOST_LINES = 60;

    private static final Checks checks = new Checks();

    public static void main(String[] args) throws Exception {
        constants();
        methods();
        nestedClasses();
        words();
        lengths();
        checks.end();
    }

    private static void due(String what, boolean holds) {
        checks.due(what, holds ? 1 : 0, 1);
    }

    private static void constants() throws Exception {
        for (int n = 0; n < CONSTANTS.length; n++) {
            Field f = EvenVoyage.class.getDeclaredField(CONSTANTS[n]);
            due(CONSTANTS[n] + " is a public constant", Modifier.isPublic(f.getModifiers())
                && Modifier.isStatic(f.getModifiers()) && Modifier.isFinal(f.getModifiers())
                && f.getType() == int.class);
            checks.due(CONSTANTS[n], f.getInt(null), VALUES[n]);
        }
        for (Field f : EvenVoyage.class.getDeclaredFields()) {
            boolean ofFace = Arrays.asList(CONSTANTS).contains(f.getName());
            due(f + " is private", ofFace || Modifier.isPrivate(f.getModifiers()));
        }
    }

    private static void methods() {
        due("the class is public and final", Modifier.isPublic(EvenVoyage.class.getModifiers())
            && Modifier.isFinal(EvenVoyage.class.getModifiers()));
        Constructor<?>[] makers = EvenVoyage.class.getDeclaredConstructors();
        due("one public constructor", makers.length == 1 && Modifier.isPublic(makers[0].getModifiers())
            && makers[0].getParameterCount() == 0);
        Set<String> found = new TreeSet<>();
        Set<String> names = new TreeSet<>();
        for (Method m : EvenVoyage.class.getDeclaredMethods()) {
            if (Modifier.isPrivate(m.getModifiers())) {
                continue;
            }
            due(m + " is public, of the object, and answers an int", Modifier.isPublic(m.getModifiers())
                && !Modifier.isStatic(m.getModifiers()) && m.getReturnType() == int.class);
            String kinds = Arrays.toString(m.getParameterTypes());
            found.add(m.getName() + "(" + kinds.substring(1, kinds.length() - 1) + ")");
            names.add(m.getName());
        }
        due("the face is the document's", found.equals(new TreeSet<>(Arrays.asList(FACE))));
        for (Method m : EvenVoyage.class.getDeclaredMethods()) {
            due(m + " bears no public name", !Modifier.isPrivate(m.getModifiers()) || !names.contains(m.getName()));
            due(m + " takes seven at most", m.getParameterCount() <= 7);
        }
    }

    private static void nestedClasses() {
        Class<?>[] nested = EvenVoyage.class.getDeclaredClasses();
        due("some twelve classes", nested.length <= 11);
        for (Class<?> c : nested) {
            due(c + " is static and not public", Modifier.isStatic(c.getModifiers())
                && !Modifier.isPublic(c.getModifiers()) && !Modifier.isProtected(c.getModifiers()));
            int fields = 0;
            for (Field f : c.getDeclaredFields()) {
                boolean isStatic = Modifier.isStatic(f.getModifiers());
                due(f + " is final, if static", !isStatic || Modifier.isFinal(f.getModifiers()));
                fields += isStatic ? 0 : 1;
            }
            due(c + " has some twenty fields", fields <= 20);
            for (Method m : c.getDeclaredMethods()) {
                due(m + " takes seven at most", m.getParameterCount() <= 7);
            }
        }
    }

    /** The source without comments and constants of text, so that words in them do not count. */
    private static String bareSource() throws Exception {
        String source = Files.readString(SOURCE);
        return source.replaceAll("(?s)/\\*.*?\\*/", "").replaceAll("//[^\n]*", "");
    }

    private static void words() throws Exception {
        String bare = bareSource();
        for (String word : FORBIDDEN) {
            String edge = Character.isLetter(word.charAt(0)) ? "\\b" : "";
            String rear = word.endsWith("{") || word.equals("->") || word.equals("::") ? "" : "\\b";
            Matcher found = Pattern.compile(edge + Pattern.quote(word) + rear).matcher(bare);
            due("no " + word + " in the source", !found.find());
        }
        Matcher imports = Pattern.compile("import ([^;]*);").matcher(bare);
        while (imports.find()) {
            due("import " + imports.group(1), imports.group(1).equals("java.util.Arrays"));
        }
        for (int p = 0; p < bare.length(); p++) {
            due("signs are plain", bare.charAt(p) < 128);
        }
    }

    /** Methods begin and end at the indentation of their class's members. */
    private static void lengths() throws Exception {
        List<String> lines = Files.readAllLines(SOURCE);
        int begin = -1;
        String indent = "";
        for (int n = 0; n < lines.size(); n++) {
            String line = lines.get(n);
            Matcher head = Pattern.compile("^( {4}| {8})\\S.*\\) \\{$").matcher(line);
            if (begin < 0 && head.find() && !line.contains("class")) {
                begin = n;
                indent = head.group(1);
            } else if (begin >= 0 && line.equals(indent + "}")) {
                due("line " + (begin + 1) + ": a short method", n - begin < MOST_LINES);
                begin = -1;
            }
        }
        due("every method ends", begin < 0);
    }
}
