import java.util.Random;

/** Made-up runs of calls (the same ones every time), each answer against the model's. */
public final class ModelTest {
    private static final int RUNS = 6000;
    private static final int CALLS = 512;
    private static final int LONGEST_STEP = 200;
    private static final int ENOUGH = 150;
    private static final String LETTERS = "lvf;0123456789  xL";

    private final Checks checks;
    private final Random dice;
    private final EvenVoyage x = new EvenVoyage();
    private final Model m = new Model();
    private final StringBuilder log = new StringBuilder();
    private final int[] counts;
    private int calls = 0;

    private ModelTest(Checks checks, int run, int[] counts) {
        this.checks = checks;
        this.counts = counts;
        dice = new Random(run);
    }

    public static void main(String[] args) {
        Checks checks = new Checks();
        // How often a call had an answer of weight: a run that only meets refusals tests nothing.
        int[] counts = new int[32];
        for (int run = 0; run < RUNS && !checks.failed(); run++) {
            new ModelTest(checks, run, counts).run();
        }
        String[] names = {"tells", "fault", "sails", "holds", "moves", "fastens", "undo", "plan of 2 and more",
            "closed low", "closed high", "slack", "needs", "eased", "mile", "which", "look", "back", "eased, no plan"};
        for (int n = 0; n < names.length; n++) {
            System.out.println(names[n] + ": " + counts[n]);
            checks.due("enough of " + names[n], Math.min(counts[n], ENOUGH), ENOUGH);
        }
        checks.end();
    }

    private void run() {
        String alike = shipText();
        for (int i = 0; i < 4; i++) {
            typeAll(below(3) == 0 ? alike : shipText());
            tellTo(i);
        }
        while (calls < CALLS - LONGEST_STEP && !checks.failed()) {
            step();
        }
        if (checks.failed()) {
            System.out.println(log);
        }
    }

    private int below(int n) {
        return dice.nextInt(n);
    }

    /** Mostly a ship, now and then none. */
    private int anyShip() {
        return below(30) == 0 ? odd() : below(4);
    }

    private int odd() {
        int[] odd = {-1, 4, Integer.MIN_VALUE, Integer.MAX_VALUE, 1000, -1000};
        return odd[below(odd.length)];
    }

    private int around(int from, int to) {
        return below(40) == 0 ? odd() : from + below(to - from + 1);
    }

    private int due(String call, int got, int want) {
        calls++;
        log.append(call).append(" = ").append(want).append('\n');
        checks.due(call, got, want);
        return want;
    }

    private void tally(int n, boolean weighty) {
        if (weighty) {
            counts[n]++;
        }
    }

    private void step() {
        int kind = below(100);
        if (kind < 2) {
            tellText();
        } else if (kind < 20) {
            change();
        } else if (kind < 30) {
            sight();
        } else if (kind < 33) {
            image();
        } else {
            ask();
        }
    }

    private void typeAll(String text) {
        for (int p = 0; p < text.length(); p++) {
            int c = text.charAt(p);
            due("type(" + c + ")", x.type(c), m.type(c));
        }
    }

    private void tellText() {
        if (below(4) != 0) {
            due("clear()", x.clear(), m.clear());
        }
        StringBuilder t = new StringBuilder();
        int style = below(6);
        if (style == 0) {
            for (int n = below(25); n > 0; n--) {
                t.append(LETTERS.charAt(below(LETTERS.length())));
            }
        } else {
            t.append(shipText());
            if (style == 1 && t.length() > 0) {
                spoil(t);
            }
        }
        typeAll(t.toString());
        tellTo(anyShip());
    }

    private void tellTo(int i) {
        int answer = due("tells(" + i + ")", x.tells(i), m.tells(i));
        tally(0, answer > 1);
        tally(1, answer <= -10);
    }

    private void spoil(StringBuilder t) {
        int p = below(t.length());
        switch (below(4)) {
            case 0 -> t.deleteCharAt(p);
            case 1 -> t.setCharAt(p, LETTERS.charAt(below(LETTERS.length())));
            case 2 -> t.insert(p, LETTERS.charAt(below(LETTERS.length())));
            default -> t.setLength(p);
        }
    }

    private String blanks() {
        return below(8) == 0 ? "  " : "";
    }

    /** A ship whose windows lie around hours at which it might come in. */
    private String shipText() {
        StringBuilder t = new StringBuilder(blanks());
        int legs = below(20) == 0 ? 7 : below(20) == 0 ? 0 : 1 + below(6);
        int pace = 1 + below(25);
        int hour = 0;
        int width = 1 + below(below(2) == 0 ? 6 : 40);
        int v = below(4);
        int f = below(4);
        for (int k = 0; k < legs; k++) {
            int miles = below(10) == 0 ? 1 + below(99) : 1 + below(60);
            int stay = below(3) == 0 ? below(10) : below(3);
            hour += Math.max(1, miles / pace) + below(3);
            int opens = Math.max(0, Math.min(999, hour - below(width) + below(3)));
            int closes = Math.min(999, Math.max(opens, hour) + below(width));
            hour += stay;
            t.append('l').append(blanks()).append(miles).append(' ').append(stay).append(' ').append(opens);
            t.append(' ').append(blanks()).append(closes).append(blanks()).append(';').append(blanks());
            if (v == k) {
                t.append('v').append(below(30) == 0 ? below(70) : below(3) == 0 ? 1 + below(20) : 20 + below(41)).append(';');
            }
            if (f == k) {
                tableText(t);
            }
        }
        return t.toString();
    }

    private void tableText(StringBuilder t) {
        int a = below(30);
        int rise = below(below(3) == 0 ? 300 : 20);
        int b = a + rise;
        rise += below(60);
        int c = b + rise;
        rise += below(200) - (below(20) == 0 ? 100 : 0);
        int d = c + Math.max(0, rise);
        t.append("f").append(a).append(' ').append(b).append(' ').append(c).append(' ').append(d).append(';');
    }

    private void change() {
        int i = anyShip();
        switch (below(8)) {
            case 0, 1 -> tally(2, due("sails(" + i + ")", x.sails(i), m.sails(i)) > 0);
            case 2 -> {
                int h = below(3) == 0 ? around(0, 100) : around(1, 5);
                tally(3, due("holds(" + i + ", " + h + ")", x.holds(i, h), m.holds(i, h)) > 0);
            }
            case 3, 4, 5 -> move(i);
            case 6 -> {
                int v = below(2) == 0 ? around(0, 61) : around(5, 20);
                tally(5, due("fastens(" + i + ", " + v + ")", x.fastens(i, v), m.fastens(i, v)) > 0);
            }
            default -> tally(6, due("undo()", x.undo(), m.undo()) >= 0);
        }
    }

    private void move(int i) {
        int port = around(0, 6);
        int opens = m.leg(i, port - 1, 2) + below(9) - 4;
        int closes = m.leg(i, port - 1, 3) + below(13) - 4;
        if (below(12) == 0) {
            opens = around(-1, 1000);
            closes = around(-1, 1000);
        }
        String call = "moves(" + i + ", " + port + ", " + opens + ", " + closes + ")";
        tally(4, due(call, x.moves(i, port, opens, closes), m.moves(i, port, opens, closes)) > 0);
    }

    private void sight() {
        if (below(4) == 0) {
            due("forget()", x.forget(), m.forget());
            return;
        }
        int h = below(6) == 0 ? around(-1, 1000) : around(0, 40);
        int mile = below(6) == 0 ? around(-1, 1000) : m.mile(below(4), h);
        due("sees(" + h + ", " + mile + ")", x.sees(h, mile), m.sees(h, mile));
    }

    private void image() {
        int k = around(0, 1);
        if (below(2) == 0) {
            due("keep(" + k + ")", x.keep(k), m.keep(k));
        } else {
            tally(16, due("back(" + k + ")", x.back(k), m.back(k)) > 0);
        }
    }

    private void ask() {
        int i = anyShip();
        int k = around(-1, 6);
        int part = around(0, 1);
        int what = around(0, 8);
        int h = below(3) == 0 ? around(-1, 1000) : around(0, 60);
        switch (below(16)) {
            case 0 -> due("ship(" + i + ", " + what + ")", x.ship(i, what), m.ship(i, what));
            case 1 -> due("leg(" + i + ", " + k + ", " + what + ")", x.leg(i, k, what), m.leg(i, k, what));
            case 2 -> {
                int answer = due("plan(" + i + ", " + part + ")", x.plan(i, part), m.plan(i, part));
                tally(7, part == 0 && answer > 1);
            }
            case 3, 4 -> due("time(" + i + ", " + k + ", " + part + ")", x.time(i, k, part), m.time(i, k, part));
            case 5, 6 -> due("speed(" + i + ", " + k + ", " + part + ")", x.speed(i, k, part), m.speed(i, k, part));
            case 7 -> {
                int answer = due("closed(" + i + ", " + k + ")", x.closed(i, k), m.closed(i, k));
                tally(8, answer == 1);
                tally(9, answer == 2);
            }
            case 8 -> due("cost(" + i + ", " + k + ")", x.cost(i, k), m.cost(i, k));
            case 9 -> tally(10, due("slack(" + i + ")", x.slack(i), m.slack(i)) >= 0);
            case 10 -> tally(11, due("needs(" + i + ")", x.needs(i), m.needs(i)) > 0);
            case 11 -> {
                int answer = due("eased(" + i + ")", x.eased(i), m.eased(i));
                tally(12, answer > 0);
                tally(17, answer > 0 && m.plan(i, 0) == Model.NONE);
            }
            case 12 -> tally(13, due("mile(" + i + ", " + h + ")", x.mile(i, h), m.mile(i, h)) > 0);
            case 13 -> tally(14, Integer.bitCount(due("which()", x.which(), m.which())) % 4 > 0);
            case 14 -> tally(15, due("look()", x.look(), m.look()) > 0);
            default -> due("count(" + what + ")", x.count(what), m.count(what));
        }
    }
}
