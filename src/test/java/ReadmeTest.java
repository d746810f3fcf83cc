import java.lang.reflect.Method;
import java.lang.reflect.Modifier;
import java.nio.file.Files;
import java.nio.file.Path;
import java.util.regex.Matcher;
import java.util.regex.Pattern;

/** The example of README.md, read from there and asked call by call, so that it stays true. */
public final class ReadmeTest {
    private static final Path README = Path.of("README.md");
    private static final Pattern TEXT = Pattern.compile("for \\(char c : \"([^\"]*)\"\\.toCharArray\\(\\)\\)");
    private static final Pattern CALL = Pattern.compile("^x\\.(\\w+)\\(([^)]*)\\);\\s*// (-?\\d+): ");
    private static final int FEWEST = 15;

    public static void main(String[] args) throws Exception {
        Checks checks = new Checks();
        EvenVoyage x = new EvenVoyage();
        int asked = 0;
        for (String line : Files.readAllLines(README)) {
            Matcher text = TEXT.matcher(line);
            if (text.find()) {
                Checks.type(x, text.group(1));
            }
            Matcher call = CALL.matcher(line);
            if (call.find()) {
                checks.due(line, answer(x, call.group(1), call.group(2)), Integer.parseInt(call.group(3)));
                asked++;
            }
        }
        checks.due("README.md has an example", asked >= FEWEST ? 1 : 0, 1);
        String readme = Files.readString(README);
        for (Method m : EvenVoyage.class.getDeclaredMethods()) {
            boolean ofFace = Modifier.isPublic(m.getModifiers());
            boolean named = readme.contains("`" + m.getName() + "`");
            checks.due("README.md names " + m.getName(), !ofFace || named ? 1 : 0, 1);
        }
        checks.end();
    }

    private static int answer(EvenVoyage x, String name, String row) throws Exception {
        String[] words = row.isEmpty() ? new String[0] : row.split(", ");
        Class<?>[] kinds = new Class<?>[words.length];
        Object[] numbers = new Object[words.length];
        for (int n = 0; n < words.length; n++) {
            kinds[n] = int.class;
            numbers[n] = Integer.valueOf(words[n]);
        }
        return (Integer) EvenVoyage.class.getMethod(name, kinds).invoke(x, numbers);
    }
}
