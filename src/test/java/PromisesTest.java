/** Each promise by hand: ordinary inputs, the edges that the document names, wrong inputs. */
public final class PromisesTest {
    private static final int BAD = -1, STATE = -2, FULL = -3, NONE = -9, NO = -1000000, NOT = -2000000;
    private static final int[] NO_SHIPS = {-1, 4, Integer.MIN_VALUE, Integer.MAX_VALUE};
    private static final Checks checks = new Checks();

    private static void due(String call, long got, long want) {
        checks.due(call, got, want);
    }

    public static void main(String[] args) {
        newObject();
        typeAndClear();
        tells();
        faults();
        sails();
        holds();
        moves();
        fastens();
        undo();
        shipAndLeg();
        plan();
        planFalls();
        timeAndSpeed();
        closed();
        cost();
        slack();
        needs();
        eased();
        mile();
        seesAndForget();
        which();
        look();
        images();
        count();
        checks.end();
    }

    /** A ship 0 with the text told, on a new object. */
    private static EvenVoyage with(String text) {
        EvenVoyage x = new EvenVoyage();
        if (Checks.tell(x, 0, text) < 0) {
            due("tells of " + text, x.tells(0), 0);
        }
        return x;
    }

    private static void newObject() {
        EvenVoyage x = new EvenVoyage();
        int[] first = {0, 20, 0, 0, 0, 1, 2, 4, 8};
        for (int i = 0; i < 4; i++) {
            for (int what = 0; what < 9; what++) {
                due("1: ship(" + i + ", " + what + ")", x.ship(i, what), first[what]);
            }
            due("1: plan", x.plan(i, 0), NONE);
            due("1: mile", x.mile(i, 0), NONE);
        }
        for (int what = 0; what < 4; what++) {
            due("1: count", x.count(what), 0);
        }
        due("1: undo", x.undo(), STATE);
        due("1: back(0)", x.back(0), STATE);
        due("1: back(1)", x.back(1), STATE);
        due("1: which", x.which(), 15);
    }

    private static void typeAndClear() {
        EvenVoyage x = new EvenVoyage();
        due("2: type(-1)", x.type(-1), BAD);
        due("2: type(256)", x.type(256), BAD);
        due("2: type(MAX)", x.type(Integer.MAX_VALUE), BAD);
        due("2: type(0)", x.type(0), 1);
        due("2: type(255)", x.type(255), 2);
        for (int n = 3; n <= 150; n++) {
            due("2: type", x.type(' '), n);
        }
        due("2: type beyond 150", x.type(' '), FULL);
        due("2: BAD ahead of FULL", x.type(256), BAD);
        due("2: count(2)", x.count(2), 150);
        due("3: clear", x.clear(), 150);
        due("3: clear again", x.clear(), 0);
        due("2: type anew", x.type('l'), 1);
    }

    private static void tells() {
        EvenVoyage x = new EvenVoyage();
        due("4: empty", x.tells(0), 0);
        due("4: empty is done", x.count(3), 1);
        due("4: blanks", Checks.tell(x, 0, "   "), 0);
        due("4: text is empty then", x.count(2), 0);
        due("4: no blanks", Checks.tell(x, 1, "v7;l99 9 0 999;f0 0 0 0;"), 3);
        int[] want = {1, 7, 0, 0, 0, 0, 0, 0, 0};
        for (int what = 0; what < 9; what++) {
            due("4: ship(1, " + what + ")", x.ship(1, what), want[what]);
        }
        due("4: blanks all over", Checks.tell(x, 1, "  l 1  0 999   999 ; f 1 1 500 999 ;v  60  ;  "), 3);
        due("4: leg", x.leg(1, 0, 2), 999);
        due("4: fastest", x.ship(1, 1), 60);
        due("4: table", x.ship(1, 8), 999);
        due("4: anew", Checks.tell(x, 1, "l5 1 2 3;"), 1);
        due("4: legs anew", x.ship(1, 0), 1);
        due("4: fastest anew", x.ship(1, 1), 20);
        due("4: table anew", x.ship(1, 8), 8);
        due("4: six legs", Checks.tell(x, 2, "l1 0 0 9;l1 0 0 9;l1 0 0 9;l1 0 0 9;l1 0 0 9;l1 0 0 9;v9;"), 7);
        Checks.type(x, "l1 0 0 9;");
        for (int i : NO_SHIPS) {
            due("4: tells(" + i + ")", x.tells(i), BAD);
        }
        due("4: text stays", x.count(2), 9);
        x.sails(2);
        x.holds(2, 5);
        due("4: a ship under way is told", x.tells(2), 1);
        for (int what = 2; what <= 4; what++) {
            due("4: ship(2, " + what + ")", x.ship(2, what), 0);
        }
    }

    private static void fault(String text, int place) {
        EvenVoyage x = with("l9 1 2 3;v5;");
        Checks.type(x, text);
        due("4: tells of '" + text + "'", x.tells(0), -10 - place);
        due("4: text stays", x.count(2), text.length());
        due("4: ship stays", x.ship(0, 1), 5);
        due("4: nothing is done", x.count(3), 1);
        x.tells(-1);
        due("4: BAD is no fault", x.tells(4), BAD);
    }

    private static void faults() {
        fault("x", 0);
        fault("  L1 0 0 0;", 2);
        fault("\t", 0);
        fault(";", 0);
        fault("5", 0);
        fault("l", 1);
        fault("l ", 2);
        fault("l1 0 0 0", 8);
        fault("l1 0 0 ;", 7);
        fault("l1 0 0 0 0;", 9);
        fault("l1 0 0 0;;", 9);
        fault("ll", 1);
        fault("l0 0 0 0;", 1);
        fault("l100 0 0 0;", 1);
        fault("l1 10 0 0;", 3);
        fault("l1 0 1000 1000;", 5);
        fault("l1 0 5 4;", 7);
        fault("l1 0 5 1000;", 7);
        fault("l1 00 0 0;", 3);
        fault("l01 0 0 0;", 1);
        fault("l1 0 0 99999999999999999999;", 7);
        fault("l1 0 0 4294967297;", 7);
        fault("l1 0 0 0;v;", 10);
        fault("v0;", 1);
        fault("v61;", 1);
        fault("v5 5;", 3);
        fault("v5;v5;", 3);
        fault("v5;v61;", 3);
        fault("f0 0 0 0;f0 0 0 0;", 9);
        fault("f5 4 9 9;", 3);
        fault("f1 3 4 9;", 5);
        fault("f1 3 5 6;", 7);
        fault("f0 999 999 999;", 7);
        fault("f0 0 0 1000;", 7);
        fault("f0 0 0;", 6);
        fault("l1 0 0 9;l1 0 0 9;l1 0 0 9;l1 0 0 9;l1 0 0 9;l1 0 0 9; l1 0 0 9;", 55);
        fault("l1 0 0 0,", 8);
        fault("l-1 0 0 0;", 1);
        fault(" ".repeat(148) + "l1", 150);
        fault(" ".repeat(147) + "999", 147);
        fault("" + (char) 255, 0);
        fault("l1 0 0 0;" + (char) 0, 9);
    }

    private static void sails() {
        // 30 miles and 10, evenly in 14 hours: 10 1/2, up to 11, and a stay of 3; 14 is at 17 then.
        EvenVoyage x = with("l30 3 0 99;l10 2 0 17;");
        due("5: sails", x.sails(0), 14);
        due("5: at", x.ship(0, 2), 1);
        due("5: burnt", x.ship(0, 4), 38);
        due("5: sails on", x.sails(0), 19);
        due("5: burnt then", x.ship(0, 4), 38 + 13);
        due("5: at the end", x.sails(0), STATE);
        EvenVoyage y = with("l30 3 0 9;v3;");
        due("5: too slow", y.sails(0), STATE);
        due("5: nothing is done", y.count(3), 1);
        for (int i : NO_SHIPS) {
            due("5: sails(" + i + ")", y.sails(i), BAD);
        }
        due("5: one mile", with("l1 3 0 5;").sails(0), 8);
        EvenVoyage z = with("l99 9 0 999;f999 999 999 999;");
        due("5: late", z.sails(0), 1008);
        due("5: burnt much", z.ship(0, 4), 99 * 999);
    }

    private static void holds() {
        EvenVoyage x = new EvenVoyage();
        due("6: holds", x.holds(3, 1), 1);
        for (int n = 1; n <= 100; n++) {
            due("6: holds 99", x.holds(3, 99), 1 + 99 * n);
        }
        due("6: 9901 and 99", x.holds(3, 99), FULL);
        due("6: up to 9999", x.holds(3, 98), 9999);
        due("6: beyond", x.holds(3, 1), FULL);
        due("6: leaves", x.ship(3, 3), 9999);
        due("6: BAD ahead of FULL", x.holds(3, 100), BAD);
        due("6: none", x.holds(0, 0), BAD);
        due("6: below", x.holds(0, -1), BAD);
        due("6: MAX", x.holds(0, Integer.MAX_VALUE), BAD);
        for (int i : NO_SHIPS) {
            due("6: holds(" + i + ")", x.holds(i, 1), BAD);
        }
    }

    private static void moves() {
        EvenVoyage x = with("l10 0 5 9;l10 0 5 20;");
        due("7: moves", x.moves(0, 1, 5, 8), 1);
        due("7: so already", x.moves(0, 1, 5, 8), STATE);
        due("7: opens alone", x.moves(0, 1, 4, 8), 1);
        due("7: opens", x.leg(0, 0, 2), 4);
        due("7: closes", x.leg(0, 0, 3), 8);
        due("7: bounds", x.moves(0, 2, 0, 999), 1);
        due("7: alike", x.moves(0, 2, 999, 999), 1);
        due("7: back", x.moves(0, 2, 5, 20), 1);
        due("7: below", x.moves(0, 1, -1, 8), BAD);
        due("7: above", x.moves(0, 1, 0, 1000), BAD);
        due("7: closes below opens", x.moves(0, 1, 9, 8), BAD);
        due("7: port 0", x.moves(0, 0, 1, 2), BAD);
        due("7: port 3", x.moves(0, 3, 1, 2), BAD);
        due("7: port MIN", x.moves(0, Integer.MIN_VALUE, 1, 2), BAD);
        due("7: port MAX", x.moves(0, Integer.MAX_VALUE, 1, 2), BAD);
        due("7: no legs", x.moves(1, 1, 1, 2), BAD);
        for (int i : NO_SHIPS) {
            due("7: moves(" + i + ")", x.moves(i, 1, 1, 2), BAD);
        }
        due("7: sails", x.sails(0) > 0 ? 1 : 0, 1);
        due("7: behind", x.moves(0, 1, 1, 2), BAD);
        due("7: ahead", x.moves(0, 2, 1, 30), 1);
    }

    private static void fastens() {
        EvenVoyage x = new EvenVoyage();
        due("8: fastens", x.fastens(0, 60), 20);
        due("8: again", x.fastens(0, 60), STATE);
        due("8: least", x.fastens(0, 1), 60);
        due("8: is", x.ship(0, 1), 1);
        due("8: none", x.fastens(0, 0), BAD);
        due("8: above", x.fastens(0, 61), BAD);
        for (int i : NO_SHIPS) {
            due("8: fastens(" + i + ")", x.fastens(i, 5), BAD);
        }
        due("8: may be undone", x.count(3), 2);
    }

    private static void undo() {
        EvenVoyage x = with("l10 0 0 9;");
        x.holds(0, 1);
        x.fastens(0, 30);
        x.moves(0, 1, 1, 9);
        x.sails(0);
        Checks.tell(x, 1, "v9;");
        due("9: six", x.count(3), 6);
        x.holds(2, 7);
        due("9: still six", x.count(3), 6);
        due("9: refused", x.holds(2, 0), BAD);
        due("9: refused is not known", x.count(3), 6);
        due("9: undo holds", x.undo(), 5);
        due("9: held no more", x.ship(2, 3), 0);
        Checks.type(x, "v");
        due("9: undo tells", x.undo(), 4);
        due("9: ship 1", x.ship(1, 1), 20);
        due("9: text stays", x.count(2), 1);
        due("9: undo sails", x.undo(), 3);
        due("9: at", x.ship(0, 2), 0);
        due("9: leaves", x.ship(0, 3), 1);
        due("9: burnt", x.ship(0, 4), 0);
        due("9: undo moves", x.undo(), 2);
        due("9: opens", x.leg(0, 0, 2), 0);
        due("9: undo fastens", x.undo(), 1);
        due("9: fastest", x.ship(0, 1), 20);
        due("9: holds anew", x.holds(0, 5), 6);
        due("9: undo it", x.undo(), 1);
        due("9: undo first holds", x.undo(), 0);
        due("9: leaves at 0", x.ship(0, 3), 0);
        due("9: the tells is lost", x.undo(), STATE);
        due("9: legs", x.ship(0, 0), 1);
    }

    private static void shipAndLeg() {
        EvenVoyage x = with("l11 2 3 44;l55 6 7 88;v9;f1 2 30 400;");
        int[] ship = {2, 9, 0, 0, 0, 1, 2, 30, 400};
        int[] leg = {11, 2, 3, 44, 55, 6, 7, 88};
        for (int what = 0; what < 9; what++) {
            due("10: ship", x.ship(0, what), ship[what]);
        }
        for (int n = 0; n < 8; n++) {
            due("11: leg", x.leg(0, n / 4, n % 4), leg[n]);
        }
        due("10: what -1", x.ship(0, -1), BAD);
        due("10: what 9", x.ship(0, 9), BAD);
        due("11: what -1", x.leg(0, 0, -1), BAD);
        due("11: what 4", x.leg(0, 0, 4), BAD);
        due("11: k -1", x.leg(0, -1, 0), BAD);
        due("11: k 2", x.leg(0, 2, 0), BAD);
        due("11: k MAX", x.leg(0, Integer.MAX_VALUE, 0), BAD);
        for (int i : NO_SHIPS) {
            due("10: ship(" + i + ")", x.ship(i, 0), BAD);
            due("11: leg(" + i + ")", x.leg(i, 0, 0), BAD);
        }
        x.sails(0);
        due("11: a leg behind is one too", x.leg(0, 0, 0), 11);
    }

    private static void plan() {
        EvenVoyage x = with("l10 0 0 99;l10 0 0 10;");
        due("12: one stretch", x.plan(0, 0), 1);
        due("12: costs", x.plan(0, 1), 24);
        due("12: what 2", x.plan(0, 2), BAD);
        due("12: what -1", x.plan(0, -1), BAD);
        for (int i : NO_SHIPS) {
            due("12: plan(" + i + ")", x.plan(i, 0), BAD);
        }
        due("12: no port ahead", x.plan(1, 0), NONE);
        due("12: BAD ahead of NONE", x.plan(1, 2), BAD);
        due("12: as fast as may be", with("l20 0 0 1;v20;").plan(0, 0), 1);
        due("12: too fast", with("l21 0 0 1;v20;").plan(0, 0), NONE);
        due("12: no hour", with("l1 0 0 0;v60;").plan(0, 0), NONE);
        due("12: stays eat it up", with("l1 9 0 9;l1 0 0 9;v60;").plan(0, 0), NONE);
        due("12: the last stay counts for nothing", with("l1 0 0 9;l1 9 0 9;v60;").plan(0, 0), 1);
        due("12: back in time", with("l1 0 9 9;l1 0 5 5;v60;").plan(0, 0), NONE);
        x.sails(0);
        x.sails(0);
        due("12: at the end", x.plan(0, 0), NONE);
    }

    private static void planFalls() {
        // Even hours are 10, 20, 30: the window of port 2 is missed by 10, that of port 1 by 6.
        EvenVoyage x = with("l10 0 16 99;l10 0 30 99;l10 0 0 99;l10 0 0 40;");
        due("12: two stretches of four", x.plan(0, 0), 3);
        due("12: by port 2 first", x.closed(0, 2), 1);
        due("12: 15 is below 16 still", x.closed(0, 1), 1);
        due("12: 35 between", x.time(0, 3, 0), 35);
        // Missed by 3 at 1 and at 2, on two sides.
        EvenVoyage y = with("l10 0 0 7;l10 0 23 99;l10 0 0 30;");
        due("12: high", y.closed(0, 1), 2);
        due("12: low", y.closed(0, 2), 1);
        due("12: three", y.plan(0, 0), 3);
        // Missed by 4 at 1, 2 and 3: split at 1 and at 3, then 2 lies just at its LOW.
        EvenVoyage z = with("l10 0 14 99;l10 0 24 99;l10 0 34 99;l10 0 0 40;");
        due("12: the lowest of three alike", z.closed(0, 1), 1);
        due("12: between", z.closed(0, 2), 0);
        due("12: then the third", z.closed(0, 3), 1);
        due("12: three of three", z.plan(0, 0), 3);
        // Missed by 4 at 1 and by 2 at 2: once split at 1, port 2 is at 22 2/3.
        EvenVoyage w = with("l10 0 14 99;l10 0 22 99;l10 0 0 99;l10 0 0 40;");
        due("12: one is enough", w.plan(0, 0), 2);
        due("12: at 1", w.closed(0, 1), 1);
        due("13: upper", w.time(0, 2, 0), 68);
        due("13: lower", w.time(0, 2, 1), 3);
        due("12: missed by a third of an hour", with("l1 0 0 1;l2 0 0 4;").plan(0, 0), 2);
        due("12: missed by none", with("l1 0 0 1;l2 0 0 3;").plan(0, 0), 1);
        // Windows are shifted by the stays ahead: 10 and 5, then 20 and 5, are even.
        EvenVoyage v = with("l10 5 10 10;l10 5 25 25;l10 0 0 40;");
        due("12: stays shift windows", v.plan(0, 0), 1);
        due("13: with the stays", v.time(0, 2, 0), 25);
    }

    private static void timeAndSpeed() {
        EvenVoyage x = with("l30 3 0 99;l10 2 0 17;");
        due("13: upper", x.time(0, 1, 0), 21);
        due("13: lower", x.time(0, 1, 1), 2);
        due("13: last", x.time(0, 2, 0), 17);
        due("13: last", x.time(0, 2, 1), 1);
        due("14: upper", x.speed(0, 0, 0), 20);
        due("14: lower", x.speed(0, 0, 1), 7);
        due("14: of the same stretch", x.speed(0, 1, 1), 7);
        int[][] bad = {{0, 0, 0}, {0, 3, 0}, {0, 1, 2}, {0, 1, -1}, {1, 1, 0}, {-1, 1, 0}, {4, 1, 0},
            {0, Integer.MAX_VALUE, 0}, {0, Integer.MIN_VALUE, 0}};
        for (int[] b : bad) {
            due("13: BAD", x.time(b[0], b[1], b[2]), NO);
        }
        int[][] badLegs = {{0, -1, 0}, {0, 2, 0}, {0, 0, 2}, {0, 0, -1}, {1, 0, 0}, {-1, 0, 0}, {4, 0, 0},
            {0, Integer.MAX_VALUE, 0}, {0, Integer.MIN_VALUE, 0}};
        for (int[] b : badLegs) {
            due("14: BAD", x.speed(b[0], b[1], b[2]), NO);
        }
        x.fastens(0, 2);
        due("13: no plan", x.time(0, 1, 0), NOT);
        due("14: no plan", x.speed(0, 0, 1), NOT);
        due("13: BAD ahead", x.time(0, 1, 2), NO);
        due("14: BAD ahead", x.speed(0, 0, 2), NO);
        x.fastens(0, 20);
        x.sails(0);
        due("13: behind", x.time(0, 1, 0), NO);
        due("14: behind", x.speed(0, 0, 0), NO);
        due("13: ahead", x.time(0, 2, 0), 17);
        due("14: ahead", x.speed(0, 1, 0), 10);
        due("14: ahead", x.speed(0, 1, 1), 3);
    }

    private static void closed() {
        EvenVoyage x = with("l10 0 7 7;l10 0 0 10;");
        due("15: low of a window of one hour", x.closed(0, 1), 1);
        x.moves(0, 1, 3, 3);
        due("15: high of a window of one hour", x.closed(0, 1), 2);
        x.moves(0, 1, 5, 5);
        due("15: just so", x.closed(0, 1), 0);
        due("15: last", x.closed(0, 2), 0);
        due("15: port 0", x.closed(0, 0), BAD);
        due("15: port 3", x.closed(0, 3), BAD);
        due("15: no legs", x.closed(1, 1), BAD);
        for (int i : NO_SHIPS) {
            due("15: closed(" + i + ")", x.closed(i, 1), BAD);
        }
        x.fastens(0, 1);
        due("15: no plan", x.closed(0, 1), NONE);
        due("15: BAD ahead", x.closed(0, 3), BAD);
    }

    private static void cost() {
        // In one hour each, so that miles are speeds, by the table 1, 2, 4, 8.
        int[] miles = {10, 20, 30, 60, 5, 11, 15, 21, 25};
        int[] want = {10 * 2, 20 * 4, 30 * 8, 60 * 20, 7, 24, 45, 92, 150};
        for (int n = 0; n < miles.length; n++) {
            EvenVoyage x = with("l" + miles[n] + " 0 0 1;v60;");
            due("16: cost at " + miles[n], x.cost(0, 0), want[n]);
        }
        EvenVoyage x = with("l10 0 0 9;l10 0 0 10;");
        due("16: k -1", x.cost(0, -1), BAD);
        due("16: k 2", x.cost(0, 2), BAD);
        due("16: no legs", x.cost(1, 0), BAD);
        due("16: MAX", x.cost(0, Integer.MAX_VALUE), BAD);
        for (int i : NO_SHIPS) {
            due("16: cost(" + i + ")", x.cost(i, 0), BAD);
        }
        x.sails(0);
        due("16: behind", x.cost(0, 0), BAD);
        x.fastens(0, 1);
        due("16: no plan", x.cost(0, 1), NONE);
        due("16: flat", with("l99 0 0 999;f7 7 7 7;").cost(0, 0), 693);
        due("16: dear", with("l99 0 0 2;f0 0 0 999;v60;").cost(0, 0), 291757);
    }

    private static void slack() {
        EvenVoyage x = with("l20 0 0 10;");
        due("17: slack", x.slack(0), 9);
        x.holds(0, 9);
        due("17: none left", x.slack(0), 0);
        x.holds(0, 1);
        due("17: too late", x.slack(0), NONE);
        due("17: no legs", x.slack(1), NONE);
        due("17: 99 at most", with("l1 0 0 999;").slack(0), 99);
        due("17: 99", with("l1 0 0 100;").slack(0), 99);
        due("17: 98", with("l1 0 0 99;").slack(0), 98);
        for (int i : NO_SHIPS) {
            due("17: slack(" + i + ")", x.slack(i), BAD);
        }
        due("17: nothing is changed", x.ship(0, 3), 10);
        due("17: nothing is done", x.count(3), 3);
    }

    private static void needs() {
        EvenVoyage x = with("l21 0 0 10;v1;");
        due("18: needs", x.needs(0), 3);
        due("18: of one hour", with("l99 0 0 1;l99 0 0 1;l99 0 0 1;l99 0 0 1;l99 0 0 1;l99 0 0 1;").needs(0), 594);
        due("18: least", with("l1 0 0 999;").needs(0), 1);
        due("18: no legs", x.needs(1), NONE);
        due("18: no hour", with("l1 0 0 0;").needs(0), NONE);
        for (int i : NO_SHIPS) {
            due("18: needs(" + i + ")", x.needs(i), BAD);
        }
        due("18: nothing is changed", x.ship(0, 1), 1);
    }

    private static void eased() {
        EvenVoyage x = with("l50 0 0 3;l50 0 0 30;");
        due("19: closes of 1", x.eased(0), 3);
        due("19: opens of 1", with("l50 0 27 30;l50 0 0 30;").eased(0), 2);
        due("19: closes of the last", with("l50 0 0 5;").eased(0), 3);
        due("19: beyond 999", with("l90 0 0 999;f0 333 666 999;").eased(0), 3);
        due("19: saves nothing", with("l50 0 0 5;f3 3 3 3;").eased(0), NONE);
        due("19: the first of several", with("l30 0 0 5;l30 0 25 99;l30 0 0 30;").eased(0), 3);
        due("19: no plan, nor by an hour", with("l21 0 0 1;l1 0 0 1;v5;").eased(0), NONE);
        EvenVoyage slow = with("l21 0 0 1;v20;");
        due("19: no plan now, but by an hour more", slow.eased(0), 3);
        due("19: no legs", x.eased(1), NONE);
        for (int i : NO_SHIPS) {
            due("19: eased(" + i + ")", x.eased(i), BAD);
        }
        due("19: nothing is changed", x.leg(0, 0, 3), 3);
        due("19: as if beyond 0", with("l1 0 0 0;l9 0 0 9;").eased(0), 3);
    }

    private static void mile() {
        // 30 miles up to 10 1/2, a stay of 3, from 13 1/2 on 10 miles up to 17.
        EvenVoyage x = with("l30 3 0 99;l10 2 0 17;");
        int[] hours = {0, 1, 7, 10, 11, 13, 14, 16, 17, 18, 999};
        int[] miles = {0, 2, 20, 28, 30, 30, 31, 37, 40, 40, 40};
        for (int n = 0; n < hours.length; n++) {
            due("20: mile at " + hours[n], x.mile(0, hours[n]), miles[n]);
        }
        due("20: h -1", x.mile(0, -1), BAD);
        due("20: h 1000", x.mile(0, 1000), BAD);
        for (int i : NO_SHIPS) {
            due("20: mile(" + i + ")", x.mile(i, 1), BAD);
        }
        x.sails(0);
        due("20: up to where it lies", x.mile(0, 0), 30);
        due("20: as it leaves", x.mile(0, 14), 30);
        due("20: on", x.mile(0, 15), 33);
        due("20: at the end", x.mile(0, 17), 40);
        x.sails(0);
        due("20: one mile in one hour", with("l1 0 0 1;").mile(0, 1), 1);
        due("20: no plan", x.mile(0, 5), NONE);
        due("20: BAD ahead", x.mile(0, 1000), BAD);
    }

    private static void seesAndForget() {
        EvenVoyage x = new EvenVoyage();
        due("21: h -1", x.sees(-1, 0), BAD);
        due("21: h 1000", x.sees(1000, 0), BAD);
        due("21: m -1", x.sees(0, -1), BAD);
        due("21: m 1000", x.sees(0, 1000), BAD);
        for (int n = 1; n <= 6; n++) {
            due("21: sees", x.sees(999, n == 6 ? 999 : 0), n);
        }
        due("21: beyond 6", x.sees(0, 0), FULL);
        due("21: BAD ahead", x.sees(0, 1000), BAD);
        due("21: count", x.count(1), 6);
        due("22: forget", x.forget(), 6);
        due("22: again", x.forget(), 0);
        due("22: count", x.count(1), 0);
        due("21: anew", x.sees(0, 0), 1);
        due("21: is not undone", x.count(3), 0);
    }

    private static void which() {
        EvenVoyage x = new EvenVoyage();
        Checks.tell(x, 0, "l20 0 0 10;");
        Checks.tell(x, 1, "l20 0 0 20;");
        Checks.tell(x, 3, "l40 0 0 20;");
        due("23: nothing seen", x.which(), 15);
        x.sees(0, 0);
        due("23: all that have plans", x.which(), 11);
        x.sees(10, 20);
        due("23: two", x.which(), 9);
        x.holds(3, 1);
        due("23: as they are when asked", x.which(), 1);
        x.undo();
        due("23: undone", x.which(), 9);
        x.sees(20, 20);
        due("23: one", x.which(), 1);
        x.sees(20, 21);
        due("23: none", x.which(), 0);
        x.forget();
        due("23: all", x.which(), 15);
    }

    private static void look() {
        EvenVoyage x = new EvenVoyage();
        due("24: all alike", x.look(), 0);
        Checks.tell(x, 0, "l20 0 0 10;");
        Checks.tell(x, 1, "l20 0 0 20;");
        Checks.tell(x, 2, "l20 0 0 20;");
        Checks.tell(x, 3, "l40 0 0 20;");
        // At 1: miles 2, 1, 1, 2.
        due("24: two alike", x.look(), 1);
        x.holds(2, 5);
        // Then at 6: 12, 6, 1, 12, and at 11: 20, 11, 8, 22 for the first time all apart.
        due("24: all apart", x.look(), 11);
        x.sees(10, 20);
        due("24: of two", x.look(), 11);
        x.sees(11, 20);
        due("24: one", x.look(), NONE);
        x.sees(11, 21);
        due("24: none", x.look(), NONE);
        x.forget();
        EvenVoyage late = new EvenVoyage();
        Checks.tell(late, 0, "l20 0 0 100;");
        Checks.tell(late, 1, "l20 0 0 100;");
        late.sees(0, 0);
        due("24: never apart", late.look(), 0);
        late.moves(1, 1, 0, 101);
        due("24: apart at", late.look(), 5);
        Checks.tell(late, 0, "l1 0 0 99;");
        Checks.tell(late, 1, "l1 0 0 100;");
        due("24: apart at 99", late.look(), 99);
        late.moves(0, 1, 0, 101);
        due("24: apart at 100 is too late", late.look(), 0);
    }

    private static void images() {
        EvenVoyage x = with("l20 0 0 10;l9 0 0 30;");
        due("25: keep", x.keep(0), 2);
        due("25: image -1", x.keep(-1), BAD);
        due("25: image 2", x.keep(2), BAD);
        due("25: is not undone", x.count(3), 1);
        x.sails(0);
        Checks.tell(x, 1, "l1 0 0 1;v9;");
        due("25: keep another", x.keep(1), 3);
        Checks.type(x, "abc");
        x.sees(1, 1);
        due("26: image -1", x.back(-1), BAD);
        due("26: image 2", x.back(2), BAD);
        due("26: refused, may be undone", x.count(3), 3);
        due("26: back", x.back(0), 2);
        due("26: at", x.ship(0, 2), 0);
        due("26: ship 1", x.ship(1, 1), 20);
        due("26: text stays", x.count(2), 3);
        due("26: seen stays", x.count(1), 1);
        due("26: nothing can be undone", x.undo(), STATE);
        due("26: back to the other", x.back(1), 3);
        due("26: at", x.ship(0, 2), 1);
        x.holds(0, 3);
        due("26: kept as it was", x.back(1), 3);
        due("26: leaves", x.ship(0, 3), 10);
        due("25: keep anew", x.keep(0), 3);
        due("26: the new one", x.back(0), 3);
        EvenVoyage y = new EvenVoyage();
        y.keep(1);
        due("26: none was kept", y.back(0), STATE);
        due("26: one without legs", y.back(1), 0);
    }

    private static void count() {
        EvenVoyage x = with("l20 0 0 10;l9 0 0 30;");
        Checks.tell(x, 3, "l1 0 0 1;");
        x.sees(1, 1);
        Checks.type(x, "abcd");
        due("27: legs", x.count(0), 3);
        due("27: seen", x.count(1), 1);
        due("27: letters", x.count(2), 4);
        due("27: may be undone", x.count(3), 2);
        due("27: what -1", x.count(-1), BAD);
        due("27: what 4", x.count(4), BAD);
    }
}
