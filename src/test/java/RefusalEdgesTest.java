import java.util.List;
import java.util.function.Supplier;
import java.util.function.ToIntFunction;

/**
 * "Refused, and nothing changes", and "(Nothing is changed.)" of what is only asked: each such call is
 * made on one of two objects that are alike, and all that can be asked of them must stay alike.
 */
public final class RefusalEdgesTest {
    private static final int BAD = -1, STATE = -2, FULL = -3, NONE = -9, NO = -1000000, NOT = -2000000;
    private static final int[] NO_SHIPS = {-1, 4, Integer.MIN_VALUE, Integer.MAX_VALUE};
    private static final Checks checks = new Checks();

    private interface Probe {
        void ask(EvenVoyage x, StringBuilder answers);
    }

    private static final List<Probe> PROBES = List.of(
        RefusalEdgesTest::asItStands, RefusalEdgesTest::plans, RefusalEdgesTest::wouldBe, RefusalEdgesTest::undone,
        RefusalEdgesTest::kept, RefusalEdgesTest::toldOn, RefusalEdgesTest::clearedAndForgotten);

    public static void main(String[] args) {
        badShips();
        badThings();
        states();
        faults();
        full();
        asking();
        checks.end();
    }

    /** Ship 0 under way, 1 without a plan, 2 without legs, 3 at its end; one image, one SEEN, half a text. */
    private static EvenVoyage busy() {
        EvenVoyage x = Checks.told("l30 3 0 99;l10 2 9 17;l20 0 0 40;", "l21 0 0 1;l2 0 0 9;", "", "l4 0 0 5;");
        x.keep(0);
        x.sails(0);
        x.holds(2, 5);
        x.sails(3);
        x.moves(0, 3, 0, 41);
        x.fastens(0, 30);
        x.sees(3, 30);
        Checks.type(x, "l1 0 0");
        return x;
    }

    /** A text of 150 letters, six SEEN, a ship that leaves at 9999. */
    private static EvenVoyage filled() {
        EvenVoyage x = Checks.told("l10 0 0 9;");
        x.keep(1);
        for (int n = 0; n < 101; n++) {
            x.holds(1, 99);
        }
        for (int n = 0; n < 6; n++) {
            x.sees(n, n);
        }
        Checks.type(x, " ".repeat(146) + "v30;");
        return x;
    }

    private static void asItStands(EvenVoyage x, StringBuilder answers) {
        for (int i = 0; i < 4; i++) {
            for (int what = 0; what < 9; what++) {
                answers.append(x.ship(i, what)).append(' ');
            }
            int legs = x.ship(i, 0);
            for (int n = 0; n < 4 * legs; n++) {
                answers.append(x.leg(i, n / 4, n % 4)).append(' ');
            }
        }
        for (int what = 0; what < 4; what++) {
            answers.append(x.count(what)).append(' ');
        }
    }

    private static void plans(EvenVoyage x, StringBuilder answers) {
        for (int i = 0; i < 4; i++) {
            answers.append(x.plan(i, 0)).append(' ').append(x.plan(i, 1)).append(' ');
            for (int k = 0; k < 3; k++) {
                answers.append(x.time(i, k + 1, 0)).append('/').append(x.time(i, k + 1, 1)).append(' ');
                answers.append(x.speed(i, k, 0)).append('/').append(x.speed(i, k, 1)).append(' ');
                answers.append(x.closed(i, k + 1)).append(' ').append(x.cost(i, k)).append(' ');
            }
        }
    }

    private static void wouldBe(EvenVoyage x, StringBuilder answers) {
        for (int i = 0; i < 4; i++) {
            answers.append(x.slack(i)).append(' ').append(x.needs(i)).append(' ').append(x.eased(i)).append(' ');
            for (int h = 0; h <= 40; h += 8) {
                answers.append(x.mile(i, h)).append(' ');
            }
        }
        answers.append(x.which()).append(' ').append(x.look()).append(' ');
    }

    private static void undone(EvenVoyage x, StringBuilder answers) {
        for (int n = 0; n < 7; n++) {
            answers.append(x.undo()).append(": ");
            for (int i = 0; i < 4; i++) {
                for (int what = 0; what < 5; what++) {
                    answers.append(x.ship(i, what)).append(' ');
                }
            }
            answers.append(x.leg(0, 2, 3)).append(' ');
        }
    }

    private static void kept(EvenVoyage x, StringBuilder answers) {
        answers.append(x.back(0)).append(' ');
        asItStands(x, answers);
        answers.append(x.back(1)).append(' ');
        answers.append(x.ship(0, 0)).append(' ').append(x.count(0)).append(' ').append(x.undo());
    }

    private static void toldOn(EvenVoyage x, StringBuilder answers) {
        answers.append(Checks.type(x, " 9;")).append(' ').append(x.tells(2)).append(' ');
        asItStands(x, answers);
    }

    private static void clearedAndForgotten(EvenVoyage x, StringBuilder answers) {
        answers.append(x.clear()).append(' ').append(x.forget()).append(' ').append(x.which()).append(' ');
        answers.append(x.look()).append(' ').append(x.sees(1, 1)).append(' ').append(x.type('l'));
    }

    private static void due(Supplier<EvenVoyage> maker, String name, ToIntFunction<EvenVoyage> call, int want) {
        for (int n = 0; n < PROBES.size(); n++) {
            EvenVoyage one = maker.get();
            EvenVoyage other = maker.get();
            checks.due(name, call.applyAsInt(one), want);
            StringBuilder answers = new StringBuilder();
            StringBuilder others = new StringBuilder();
            PROBES.get(n).ask(one, answers);
            PROBES.get(n).ask(other, others);
            boolean alike = answers.toString().equals(others.toString());
            checks.due(name + " changes nothing, by probe " + n, alike ? 1 : 0, 1);
            if (!alike) {
                System.out.println(answers + "\n" + others);
            }
        }
    }

    private static void due(String name, ToIntFunction<EvenVoyage> call, int want) {
        due(RefusalEdgesTest::busy, name, call, want);
    }

    /** "BAD (a number is not as told, or there is no such thing)": ships but 0 to 3, in every call. */
    private static void badShips() {
        for (int i : NO_SHIPS) {
            due("tells(" + i + ")", x -> x.tells(i), BAD);
            due("sails(" + i + ")", x -> x.sails(i), BAD);
            due("holds(" + i + ", 1)", x -> x.holds(i, 1), BAD);
            due("moves(" + i + ", 3, 1, 2)", x -> x.moves(i, 3, 1, 2), BAD);
            due("fastens(" + i + ", 9)", x -> x.fastens(i, 9), BAD);
            due("ship(" + i + ", 0)", x -> x.ship(i, 0), BAD);
            due("leg(" + i + ", 0, 0)", x -> x.leg(i, 0, 0), BAD);
            due("plan(" + i + ", 0)", x -> x.plan(i, 0), BAD);
            due("time(" + i + ", 3, 0)", x -> x.time(i, 3, 0), NO);
            due("speed(" + i + ", 2, 0)", x -> x.speed(i, 2, 0), NO);
            due("closed(" + i + ", 3)", x -> x.closed(i, 3), BAD);
            due("cost(" + i + ", 2)", x -> x.cost(i, 2), BAD);
            due("slack(" + i + ")", x -> x.slack(i), BAD);
            due("needs(" + i + ")", x -> x.needs(i), BAD);
            due("eased(" + i + ")", x -> x.eased(i), BAD);
            due("mile(" + i + ", 0)", x -> x.mile(i, 0), BAD);
        }
    }

    private static void badThings() {
        due("type(-1)", x -> x.type(-1), BAD);
        due("type(256)", x -> x.type(256), BAD);
        due("holds(0, 0)", x -> x.holds(0, 0), BAD);
        due("holds(0, 100)", x -> x.holds(0, 100), BAD);
        due("moves, opens -1", x -> x.moves(0, 2, -1, 5), BAD);
        due("moves, closes 1000", x -> x.moves(0, 2, 0, 1000), BAD);
        due("moves, closes below opens", x -> x.moves(0, 2, 5, 4), BAD);
        due("moves, where it lies", x -> x.moves(0, 1, 0, 5), BAD);
        due("moves, where it lies, as it is", x -> x.moves(0, 1, 0, 99), BAD);
        due("moves, port 0", x -> x.moves(0, 0, 0, 5), BAD);
        due("moves, port 4", x -> x.moves(0, 4, 0, 5), BAD);
        due("moves, at the end", x -> x.moves(3, 1, 0, 9), BAD);
        due("moves, no legs", x -> x.moves(2, 1, 0, 9), BAD);
        due("fastens(0, 0)", x -> x.fastens(0, 0), BAD);
        due("fastens(0, 61)", x -> x.fastens(0, 61), BAD);
        due("sees(-1, 0)", x -> x.sees(-1, 0), BAD);
        due("sees(1000, 0)", x -> x.sees(1000, 0), BAD);
        due("sees(0, -1)", x -> x.sees(0, -1), BAD);
        due("sees(0, 1000)", x -> x.sees(0, 1000), BAD);
        due("keep(-1)", x -> x.keep(-1), BAD);
        due("keep(2)", x -> x.keep(2), BAD);
        due("back(-1)", x -> x.back(-1), BAD);
        due("back(2)", x -> x.back(2), BAD);
        due("count(-1)", x -> x.count(-1), BAD);
        due("count(4)", x -> x.count(4), BAD);
    }

    /** "STATE (as told)". */
    private static void states() {
        due("sails, no plan", x -> x.sails(1), STATE);
        due("sails, no legs", x -> x.sails(2), STATE);
        due("sails, at the end", x -> x.sails(3), STATE);
        due("moves, as it is", x -> x.moves(0, 3, 0, 41), STATE);
        due("fastens, as it is", x -> x.fastens(0, 30), STATE);
        due("fastens, as at first", x -> x.fastens(2, 20), STATE);
        due("back, none was kept", x -> x.back(1), STATE);
        due(EvenVoyage::new, "undo, nothing was done", x -> x.undo(), STATE);
        due(EvenVoyage::new, "back, none was kept", x -> x.back(0), STATE);
    }

    private static void faults() {
        due("tells, too early", x -> x.tells(0), -16);
        due("tells, too early, a ship without legs", x -> x.tells(2), -16);
        due(() -> withText("v9;v9;"), "tells, v again", x -> x.tells(0), -13);
        due(() -> withText("l5 1 2 3;f1 1 1 0;"), "tells, behind a leg", x -> x.tells(0), -26);
    }

    private static EvenVoyage withText(String text) {
        EvenVoyage x = busy();
        x.clear();
        Checks.type(x, text);
        return x;
    }

    /** "FULL", and BAD ahead of it. */
    private static void full() {
        due(RefusalEdgesTest::filled, "type", x -> x.type(' '), FULL);
        due(RefusalEdgesTest::filled, "type, BAD", x -> x.type(256), BAD);
        due(RefusalEdgesTest::filled, "holds", x -> x.holds(1, 1), FULL);
        due(RefusalEdgesTest::filled, "holds, BAD", x -> x.holds(1, 100), BAD);
        due(RefusalEdgesTest::filled, "sees", x -> x.sees(0, 0), FULL);
        due(RefusalEdgesTest::filled, "sees, BAD", x -> x.sees(0, 1000), BAD);
    }

    /** What is only asked changes nothing, whether there is an answer or none. */
    private static void asking() {
        // Ship 0 goes 10 miles from 14 to 17, 20 miles from 19 to 41.
        due("slack(0)", x -> x.slack(0), 2);
        due("needs(0)", x -> x.needs(0), 4);
        due("eased(0)", x -> x.eased(0), 5);
        due("mile(0, 15)", x -> x.mile(0, 15), 33);
        due("plan(0, 0)", x -> x.plan(0, 0), 2);
        due("time(0, 2, 0)", x -> x.time(0, 2, 0), 17);
        due("speed(0, 1, 1)", x -> x.speed(0, 1, 1), 3);
        due("closed(0, 2)", x -> x.closed(0, 2), 2);
        due("cost(0, 1)", x -> x.cost(0, 1), 13);
        due("which()", x -> x.which(), 1);
        due("look()", x -> x.look(), NONE);
        int[] withoutPlan = {1, 2, 3};
        for (int i : withoutPlan) {
            due("slack(" + i + ")", x -> x.slack(i), NONE);
            due("eased(" + i + ")", x -> x.eased(i), i == 1 ? 3 : NONE);
            due("mile(" + i + ", 5)", x -> x.mile(i, 5), NONE);
            due("needs(" + i + ")", x -> x.needs(i), i == 1 ? 21 : NONE);
        }
        due("time, NOT", x -> x.time(1, 1, 0), NOT);
        due("speed, NOT", x -> x.speed(1, 0, 0), NOT);
        due("closed, NONE", x -> x.closed(1, 1), NONE);
        due("cost, NONE", x -> x.cost(1, 0), NONE);
    }
}
