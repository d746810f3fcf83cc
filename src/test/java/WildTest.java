import java.lang.reflect.InvocationTargetException;
import java.lang.reflect.Method;
import java.lang.reflect.Modifier;
import java.util.Arrays;
import java.util.Comparator;
import java.util.Random;

/**
 * "No call may ever throw or fail to end, for any arguments in any state": every call with every mix
 * of telling numbers, on ships in many states, and what can't be is refused by what the document says.
 */
public final class WildTest {
    private static final int[] EDGES = {Integer.MIN_VALUE, Integer.MIN_VALUE + 1, -2000000, -1000, -1, 0, 1, 2, 3, 4, 5,
        6, 7, 8, 9, 10, 59, 60, 61, 98, 99, 100, 149, 150, 255, 256, 998, 999, 1000, 9999, 65536, 1 << 30,
        Integer.MAX_VALUE - 1, Integer.MAX_VALUE};
    private static final int NEVER = Integer.MIN_VALUE;
    private static final int RUNS = 3000;
    private static final int CALLS = 512;
    private static final String[] TEXTS = {"", "l99 9 0 999;l99 9 0 999;l99 9 0 999;l99 9 0 999;l99 9 0 999;l99 9 0 999;v60;",
        "l99 9 0 0;l99 9 0 0;l99 9 0 0;l99 9 0 0;l99 9 0 0;l99 9 0 0;v1;", "l1 9 999 999;l1 9 0 0;l1 9 999 999;l1 9 0 0;v60;",
        "l60 0 0 1;v60;f0 0 0 999;", "l1 0 0 999;f999 999 999 999;", "l10 0 0 9;l10 0 20 22;l10 1 21 30;v30;"};

    private static final Checks checks = new Checks();

    public static void main(String[] args) throws Exception {
        Method[] face = face();
        checks.due("calls of the face", face.length, 26);
        for (int run = 0; run < RUNS && !checks.failed(); run++) {
            wildRun(face, new Random(run));
        }
        for (Method call : face) {
            for (int n = 0; n < call.getParameterCount(); n++) {
                beyondEveryBound(call, n);
            }
        }
        checks.end();
    }

    /** In the same order each time, whatever order the machine tells them in. */
    private static Method[] face() {
        return Arrays.stream(EvenVoyage.class.getDeclaredMethods())
            .filter(m -> Modifier.isPublic(m.getModifiers()))
            .sorted(Comparator.comparing(Method::getName))
            .toArray(Method[]::new);
    }

    private static void wildRun(Method[] face, Random dice) throws Exception {
        EvenVoyage x = new EvenVoyage();
        int calls = 0;
        for (int i = 0; i < 2; i++) {
            String text = TEXTS[dice.nextInt(TEXTS.length)];
            Checks.tell(x, dice.nextInt(4), text);
            calls += text.length() + 3;
        }
        for (; calls < CALLS; calls++) {
            Method call = face[dice.nextInt(face.length)];
            Object[] numbers = new Object[call.getParameterCount()];
            for (int n = 0; n < numbers.length; n++) {
                // Mostly small ones, so that ships do sail and states are many.
                numbers[n] = dice.nextInt(3) > 0 ? dice.nextInt(5) : EDGES[dice.nextInt(EDGES.length)];
            }
            answered(call, answer(x, call, numbers));
        }
    }

    private static void answered(Method call, int answer) {
        boolean fraction = call.getName().equals("time") || call.getName().equals("speed");
        boolean fits = answer >= 0 || (fraction ? answer == -1000000 || answer == -2000000
            : answer >= -3 || answer == -9 || call.getName().equals("tells") && answer <= -10 && answer >= -160);
        checks.due(call.getName() + " answers what it may, not " + answer, fits ? 1 : 0, 1);
    }

    /** A number far off is refused wherever it stands, the others being as they may be. */
    private static void beyondEveryBound(Method call, int place) throws Exception {
        int bad = call.getName().equals("time") || call.getName().equals("speed") ? -1000000 : -1;
        int[] far = {Integer.MIN_VALUE, -1000, -1, 10000, 1 << 30, Integer.MAX_VALUE};
        for (int number : far) {
            EvenVoyage x = Checks.told("l10 0 0 9;l10 0 20 22;");
            Object[] numbers = new Object[call.getParameterCount()];
            // Of ship 0 port 1 may be moved to a window from 1 to 1, and leg 1 is ahead.
            Arrays.fill(numbers, 1);
            numbers[0] = 0;
            numbers[place] = number;
            checks.due(call.getName() + Arrays.toString(numbers), answer(x, call, numbers), bad);
        }
    }

    private static int answer(EvenVoyage x, Method call, Object[] numbers) throws Exception {
        try {
            return (Integer) call.invoke(x, numbers);
        } catch (InvocationTargetException thrown) {
            System.out.println(call.getName() + Arrays.toString(numbers) + " threw " + thrown.getCause());
            return NEVER;
        }
    }
}
