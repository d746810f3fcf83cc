/** What the tests share: counts and prints the answers that are not as due. */
final class Checks {
    private int wrong = 0;
    private int asked = 0;

    void due(String call, long got, long want) {
        asked++;
        if (got != want) {
            wrong++;
            if (wrong <= 40) {
                System.out.println(call + " answered " + got + ", due is " + want);
            }
        }
    }

    /** Types a text and answers how long THE TEXT is then. */
    static int type(EvenVoyage x, String text) {
        int length = x.count(2);
        for (int p = 0; p < text.length(); p++) {
            length = x.type(text.charAt(p));
        }
        return length;
    }

    /** Clears what was typed, types a text and lets it tell a ship. */
    static int tell(EvenVoyage x, int i, String text) {
        x.clear();
        type(x, text);
        return x.tells(i);
    }

    /** A new object whose ships 0, 1, .. are told by these texts; an empty one tells a ship without legs. */
    static EvenVoyage told(String... texts) {
        EvenVoyage x = new EvenVoyage();
        for (int i = 0; i < texts.length; i++) {
            if (tell(x, i, texts[i]) < 0) {
                throw new IllegalArgumentException("the test's own text is faulty: " + texts[i]);
            }
        }
        return x;
    }

    boolean failed() {
        return wrong != 0;
    }

    void end() {
        System.out.println(asked + " answers, " + wrong + " not as due");
        if (wrong != 0) {
            System.exit(1);
        }
    }
}
