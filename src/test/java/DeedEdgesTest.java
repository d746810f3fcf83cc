/** Every sentence on what is done, undone and kept that names an edge: promises 1, 5 to 9, 25 to 27. */
public final class DeedEdgesTest {
    private static final int BAD = -1, STATE = -2, FULL = -3, NONE = -9;
    private static final int[] NO_SHIPS = {-1, 4, 5, -4, Integer.MIN_VALUE, Integer.MAX_VALUE};
    private static final Checks checks = new Checks();

    public static void main(String[] args) {
        newObject();
        sailsWithoutPlan();
        sailsRoundedUp();
        sailsByStretches();
        sailsIntoNoPlan();
        holdsBounds();
        holdsFull();
        holdsAnywhere();
        movesBounds();
        movesPorts();
        movesSo();
        fastensBounds();
        undoNone();
        undoSix();
        undoInARing();
        undoEachKind();
        undoShipsAlone();
        refusedIsNotUndone();
        images();
        imagesNoneKept();
        imagesKeepShipsAlone();
        imagesAndUndo();
        counts();
        lastCall();
        checks.end();
    }

    private static void due(String call, long got, long want) {
        checks.due(call, got, want);
    }

    /** "As told": nothing is told, seen, done or kept. */
    private static void newObject() {
        EvenVoyage x = new EvenVoyage();
        for (int what = 0; what < 4; what++) {
            due("1: count(" + what + ")", x.count(what), 0);
        }
        due("3: clear", x.clear(), 0);
        due("22: forget", x.forget(), 0);
        due("9: undo", x.undo(), STATE);
        due("26: back(0)", x.back(0), STATE);
        due("26: back(1)", x.back(1), STATE);
        due("23: which", x.which(), 15);
        due("24: look", x.look(), 0);
        due("2: the first letter", x.type(0), 1);
        due("21: the first SEEN", x.sees(0, 0), 1);
        due("1: of one object alone", new EvenVoyage().count(2), 0);
    }

    /** "STATE: there is no PLAN." */
    private static void sailsWithoutPlan() {
        EvenVoyage x = Checks.told("l21 0 0 1;", "l1 0 0 0;", "", "l5 0 0 5;");
        due("5: too fast", x.sails(0), STATE);
        due("5: no hour", x.sails(1), STATE);
        due("5: no LEGS", x.sails(2), STATE);
        due("5: ship 3", x.sails(3), 5);
        due("5: at the end", x.sails(3), STATE);
        due("10: AT", x.ship(3, 2), 1);
        for (int i : NO_SHIPS) {
            due("5: sails(" + i + ")", x.sails(i), BAD);
        }
        due("27: one was DONE besides four told", x.count(3), 5);
    }

    /** "it LEAVES at its TIME there, rounded up to a whole hour, and STAY". */
    private static void sailsRoundedUp() {
        due("5: 1 is whole", Checks.told("l1 0 0 99;l99 0 0 100;").sails(0), 1);
        due("5: 1 1/99", Checks.told("l1 0 0 99;l98 0 0 100;").sails(0), 2);
        due("5: 98 98/99", Checks.told("l98 0 0 99;l1 0 0 100;").sails(0), 99);
        due("5: 1/2", Checks.told("l1 0 0 99;l1 0 0 1;v2;").sails(0), 1);
        due("5: 5 1/3 and 9", Checks.told("l1 9 0 99;l2 0 0 25;").sails(0), 15);
        due("5: whole, and 9", Checks.told("l1 9 0 99;l2 0 0 24;").sails(0), 14);
        due("5: as late as a port may be", Checks.told("l1 9 0 999;").sails(0), 1008);
    }

    /** By its PLAN: CLOSED ports at their LOW or HIGH; BURNT is more by COST of the LEG. */
    private static void sailsByStretches() {
        EvenVoyage x = Checks.told("l10 2 0 4;l10 3 20 30;l10 1 0 40;");
        due("5: HIGH 4 and 2", x.sails(0), 6);
        due("10: BURNT by 10 at 5/2", x.ship(0, 4), 12);
        // From 6 by EVEN to 40 less 3: at 21 1/2 at port 2.
        due("5: 21 1/2, up, and 3", x.sails(0), 25);
        due("10: BURNT by 10 at 20/31", x.ship(0, 4), 22);
        due("5: 40 and 1", x.sails(0), 41);
        due("10: BURNT by 10 at 10/15", x.ship(0, 4), 32);
        due("10: AT", x.ship(0, 2), 3);
        due("10: LEAVES", x.ship(0, 3), 41);
    }

    /** What was rounded up may be too late for what is AHEAD. */
    private static void sailsIntoNoPlan() {
        EvenVoyage x = Checks.told("l3 0 0 9;l2 0 0 1;v5;");
        due("12: just fast enough", x.plan(0, 0), 1);
        due("5: 3/5, up to 1", x.sails(0), 1);
        due("12: no hour is left", x.plan(0, 0), NONE);
        due("5: no more", x.sails(0), STATE);
        due("10: AT", x.ship(0, 2), 1);
    }

    /** "HELD UP by h (1 .. 99) hours". */
    private static void holdsBounds() {
        EvenVoyage x = new EvenVoyage();
        int[] wrong = {0, -1, 100, 101, -99, Integer.MIN_VALUE, Integer.MAX_VALUE};
        for (int h : wrong) {
            due("6: holds(0, " + h + ")", x.holds(0, h), BAD);
        }
        due("6: least", x.holds(0, 1), 1);
        due("6: greatest", x.holds(0, 99), 100);
        for (int i : NO_SHIPS) {
            due("6: holds(" + i + ", 1)", x.holds(i, 1), BAD);
        }
        due("27: two were DONE", x.count(3), 2);
    }

    /** "FULL: that would be above 9999." */
    private static void holdsFull() {
        EvenVoyage x = new EvenVoyage();
        for (int n = 1; n <= 100; n++) {
            due("6: holds", x.holds(1, 99), 99 * n);
        }
        due("6: 9900 and 98", x.holds(1, 98), 9998);
        due("6: 10000", x.holds(1, 2), FULL);
        due("6: 10097", x.holds(1, 99), FULL);
        due("6: 9999", x.holds(1, 1), 9999);
        due("6: 10000", x.holds(1, 1), FULL);
        due("10: LEAVES", x.ship(1, 3), 9999);
        due("6: BAD ahead of FULL", x.holds(1, 0), BAD);
        due("6: BAD ahead of FULL", x.holds(1, 100), BAD);
        due("9: what was refused is not known", x.undo(), 5);
        due("10: LEAVES", x.ship(1, 3), 9998);
        due("6: another ship has its own hour", x.holds(0, 99), 99);
        due("4: told anew it LEAVES at 0", x.tells(1), 0);
        due("10: LEAVES", x.ship(1, 3), 0);
    }

    /** Ships without LEGS, without a PLAN, at the end may be HELD UP too. */
    private static void holdsAnywhere() {
        EvenVoyage x = Checks.told("", "l21 0 0 1;", "l5 0 0 5;");
        due("6: no LEGS", x.holds(0, 7), 7);
        due("6: no PLAN", x.holds(1, 7), 7);
        due("5: to the end", x.sails(2), 5);
        due("6: at the end", x.holds(2, 7), 12);
        due("10: AT", x.ship(2, 2), 1);
        due("10: BURNT", x.ship(2, 4), 5);
    }

    /** "BAD (what they may not be ..)". */
    private static void movesBounds() {
        EvenVoyage x = Checks.told("l10 0 5 9;");
        int[][] wrong = {{-1, 9}, {-1, -1}, {5, 1000}, {1000, 1000}, {6, 5}, {999, 0}, {0, -1},
            {Integer.MIN_VALUE, 5}, {5, Integer.MAX_VALUE}, {5, Integer.MIN_VALUE}, {Integer.MAX_VALUE, 5},
            {Integer.MIN_VALUE, Integer.MAX_VALUE}, {Integer.MAX_VALUE, Integer.MAX_VALUE}};
        for (int[] w : wrong) {
            due("7: moves(0, 1, " + w[0] + ", " + w[1] + ")", x.moves(0, 1, w[0], w[1]), BAD);
        }
        due("11: OPENS as before", x.leg(0, 0, 2), 5);
        due("11: CLOSES as before", x.leg(0, 0, 3), 9);
        int[][] right = {{0, 0}, {0, 999}, {999, 999}, {500, 500}, {500, 501}, {0, 1}};
        for (int[] r : right) {
            due("7: moves(0, 1, " + r[0] + ", " + r[1] + ")", x.moves(0, 1, r[0], r[1]), 1);
            due("11: OPENS", x.leg(0, 0, 2), r[0]);
            due("11: CLOSES", x.leg(0, 0, 3), r[1]);
        }
        due("11: MILES as before", x.leg(0, 0, 0), 10);
        due("11: STAY as before", x.leg(0, 0, 1), 0);
    }

    /** "a PORT AHEAD (1 on)"; "the PORT is not AHEAD". */
    private static void movesPorts() {
        EvenVoyage x = Checks.told("l10 0 0 9;l10 0 0 30;l10 0 0 60;");
        int[] none = {0, -1, 4, 6, 7, Integer.MIN_VALUE, Integer.MAX_VALUE};
        for (int port : none) {
            due("7: moves(0, " + port + ", 1, 2)", x.moves(0, port, 1, 2), BAD);
        }
        due("7: no LEGS", x.moves(1, 1, 1, 2), BAD);
        due("7: no LEGS, port 0", x.moves(1, 0, 1, 2), BAD);
        for (int i : NO_SHIPS) {
            due("7: moves(" + i + ", 1, 1, 2)", x.moves(i, 1, 1, 2), BAD);
        }
        due("7: the first", x.moves(0, 1, 0, 8), 1);
        due("7: the last", x.moves(0, 3, 0, 61), 1);
        due("11: the one between is as it was", x.leg(0, 1, 3), 30);
        due("5: to port 1", x.sails(0), 8);
        due("7: where it lies", x.moves(0, 1, 0, 9), BAD);
        due("7: the next", x.moves(0, 2, 0, 29), 1);
        due("5: to port 2", x.sails(0), 29);
        due("7: behind", x.moves(0, 1, 0, 9), BAD);
        due("7: where it lies", x.moves(0, 2, 0, 9), BAD);
        due("5: to port 3", x.sails(0), 61);
        due("7: at the end", x.moves(0, 3, 0, 9), BAD);
        due("7: behind the end", x.moves(0, 4, 0, 9), BAD);
    }

    /** "STATE: they are so"; BAD ahead of it. */
    private static void movesSo() {
        EvenVoyage x = Checks.told("l10 0 5 9;l10 0 5 30;");
        due("7: both are so", x.moves(0, 1, 5, 9), STATE);
        due("7: OPENS alone is so", x.moves(0, 1, 5, 10), 1);
        due("7: CLOSES alone is so", x.moves(0, 1, 4, 10), 1);
        due("7: both are so now", x.moves(0, 1, 4, 10), STATE);
        due("7: as they were", x.moves(0, 1, 5, 9), 1);
        due("27: three were DONE", x.count(3), 4);
        due("5: sails", x.sails(0) > 0 ? 1 : 0, 1);
        due("7: so, but not AHEAD", x.moves(0, 1, 5, 9), BAD);
    }

    /** "FASTEST (miles an hour, 1 to 60)"; "what it was"; "STATE: it is that." */
    private static void fastensBounds() {
        EvenVoyage x = new EvenVoyage();
        int[] wrong = {0, -1, 61, 62, 999, Integer.MIN_VALUE, Integer.MAX_VALUE};
        for (int v : wrong) {
            due("8: fastens(0, " + v + ")", x.fastens(0, v), BAD);
        }
        due("8: as at first", x.fastens(0, 20), STATE);
        due("8: least", x.fastens(0, 1), 20);
        due("8: is that", x.fastens(0, 1), STATE);
        due("8: greatest", x.fastens(0, 60), 1);
        due("8: is that", x.fastens(0, 60), STATE);
        due("8: and back", x.fastens(0, 20), 60);
        for (int i : NO_SHIPS) {
            due("8: fastens(" + i + ", 20)", x.fastens(i, 20), BAD);
            due("8: fastens(" + i + ", 21)", x.fastens(i, 21), BAD);
        }
        due("27: three were DONE", x.count(3), 3);
        due("8: at sea and in port alike", x.fastens(3, 59), 20);
    }

    /** "STATE: none." */
    private static void undoNone() {
        EvenVoyage x = new EvenVoyage();
        due("9: nothing was done", x.undo(), STATE);
        x.holds(0, 1);
        due("9: the only one", x.undo(), 0);
        due("9: none is left", x.undo(), STATE);
        due("9: UNDONE is not done", x.undo(), STATE);
        due("10: LEAVES", x.ship(0, 3), 0);
    }

    /** "(6 are known, older ones are lost)". */
    private static void undoSix() {
        for (int deeds = 1; deeds <= 8; deeds++) {
            EvenVoyage x = new EvenVoyage();
            for (int n = 1; n <= deeds; n++) {
                due("6: holds", x.holds(2, 1), n);
                due("27: how many may be UNDONE", x.count(3), Math.min(n, 6));
            }
            int known = Math.min(deeds, 6);
            for (int n = 1; n <= known; n++) {
                due("9: how many more", x.undo(), known - n);
                due("10: as ahead of it", x.ship(2, 3), deeds - n);
            }
            due("9: older ones are lost", x.undo(), STATE);
            due("10: as it was six ago", x.ship(2, 3), deeds - known);
        }
    }

    /** Done and undone in turns, many times over. */
    private static void undoInARing() {
        EvenVoyage x = new EvenVoyage();
        int leaves = 0;
        int known = 0;
        for (int n = 0; n < 60; n++) {
            int doing = n * 7 % 5 + 1;
            for (int k = 0; k < doing; k++) {
                leaves++;
                known = Math.min(6, known + 1);
                due("6: holds", x.holds(0, 1), leaves);
            }
            int undoing = Math.min(known, n * 3 % 4);
            for (int k = 0; k < undoing; k++) {
                leaves--;
                known--;
                due("9: undo", x.undo(), known);
            }
            due("10: LEAVES", x.ship(0, 3), leaves);
        }
    }

    /** "the latest tells(), sails(), holds(), moves(), fastens() that was not refused". */
    private static void undoEachKind() {
        EvenVoyage x = Checks.told("l10 0 0 9;l10 0 0 30;");
        due("5: sails", x.sails(0), 9);
        due("9: undo it", x.undo(), 1);
        due("10: AT", x.ship(0, 2), 0);
        due("10: LEAVES", x.ship(0, 3), 0);
        due("10: BURNT", x.ship(0, 4), 0);
        due("6: holds", x.holds(0, 5), 5);
        due("9: undo it", x.undo(), 1);
        due("10: LEAVES", x.ship(0, 3), 0);
        due("7: moves", x.moves(0, 2, 1, 31), 1);
        due("9: undo it", x.undo(), 1);
        due("11: OPENS", x.leg(0, 1, 2), 0);
        due("11: CLOSES", x.leg(0, 1, 3), 30);
        due("8: fastens", x.fastens(0, 7), 20);
        due("9: undo it", x.undo(), 1);
        due("10: FASTEST", x.ship(0, 1), 20);
        due("4: tells", Checks.tell(x, 0, "l1 2 3 4;v5;f6 7 8 9;"), 3);
        due("9: undo it", x.undo(), 1);
        int[] want = {2, 20, 0, 0, 0, 1, 2, 4, 8};
        for (int what = 0; what < 9; what++) {
            due("10: ship(0, " + what + ")", x.ship(0, what), want[what]);
        }
        due("11: MILES", x.leg(0, 0, 0), 10);
        due("9: undo the first tells", x.undo(), 0);
        due("10: LEGS", x.ship(0, 0), 0);
        due("9: none is left", x.undo(), STATE);
    }

    /** "all SHIPS are as ahead of it": THE TEXT, what was SEEN and IMAGES are not UNDONE. */
    private static void undoShipsAlone() {
        EvenVoyage x = Checks.told("l10 0 0 9;", "v7;");
        Checks.type(x, "v8;");
        due("4: tells", x.tells(1), 1);
        Checks.type(x, "v9");
        due("21: sees", x.sees(1, 1), 1);
        due("25: keep", x.keep(0), 1);
        due("9: undo", x.undo(), 2);
        due("10: FASTEST", x.ship(1, 1), 7);
        due("10: another ship is as it was", x.ship(0, 0), 1);
        due("27: THE TEXT is not as ahead of it", x.count(2), 2);
        due("27: SEEN is not", x.count(1), 1);
        due("2: it goes on", x.type(';'), 3);
        due("4: and tells", x.tells(2), 1);
        due("10: FASTEST", x.ship(2, 1), 9);
        due("26: the IMAGE is not UNDONE", x.back(0), 1);
        due("10: FASTEST of the IMAGE", x.ship(1, 1), 8);
        due("27: asking, typing, seeing are not DONE", x.count(3), 0);
    }

    /** What was refused is none of the latest: each of the five, in each way. */
    private static void refusedIsNotUndone() {
        EvenVoyage x = Checks.told("l10 0 0 9;v20;", "l1 0 0 0;");
        for (int n = 0; n < 101; n++) {
            x.holds(2, 99);
        }
        due("27: six", x.count(3), 6);
        Checks.type(x, "v0;");
        due("4: FAULT", x.tells(0), -11);
        due("4: BAD", x.tells(4), BAD);
        due("5: BAD", x.sails(4), BAD);
        due("5: STATE", x.sails(1), STATE);
        due("6: BAD", x.holds(0, 0), BAD);
        due("6: FULL", x.holds(2, 1), FULL);
        due("7: BAD", x.moves(0, 0, 1, 1), BAD);
        due("7: STATE", x.moves(0, 1, 0, 9), STATE);
        due("8: BAD", x.fastens(0, 61), BAD);
        due("8: STATE", x.fastens(0, 20), STATE);
        due("26: BAD", x.back(2), BAD);
        due("26: STATE", x.back(0), STATE);
        due("27: six", x.count(3), 6);
        due("9: the latest holds", x.undo(), 5);
        due("10: LEAVES", x.ship(2, 3), 9900);
    }

    /** "IMAGES 0, 1"; BAD beyond; "how many LEGS all SHIPS have". */
    private static void images() {
        EvenVoyage x = Checks.told("l20 0 0 10;l9 0 0 30;");
        int[] none = {-1, 2, 3, Integer.MIN_VALUE, Integer.MAX_VALUE};
        for (int image : none) {
            due("25: keep(" + image + ")", x.keep(image), BAD);
            due("26: back(" + image + "), BAD ahead of STATE", x.back(image), BAD);
        }
        due("26: none of them was kept", x.back(0), STATE);
        due("26: none of them was kept", x.back(1), STATE);
        due("25: keep(0)", x.keep(0), 2);
        due("4: another ship", Checks.tell(x, 3, "l1 0 0 9;l2 0 0 9;l3 0 0 9;"), 3);
        due("25: keep(1)", x.keep(1), 5);
        due("26: back(0)", x.back(0), 2);
        due("10: ship 3 has none", x.ship(3, 0), 0);
        due("26: back(1)", x.back(1), 5);
        due("10: ship 3 has three", x.ship(3, 0), 3);
        due("26: back(1) again", x.back(1), 5);
        due("26: back(0) again", x.back(0), 2);
        due("26: BAD changes nothing", x.back(2), BAD);
        due("27: two", x.count(0), 2);
    }

    /** "STATE: none was kept": one is no other, and one of ships without LEGS is kept as well. */
    private static void imagesNoneKept() {
        EvenVoyage x = new EvenVoyage();
        due("25: keep(1)", x.keep(1), 0);
        due("26: back(0)", x.back(0), STATE);
        due("4: tells", Checks.tell(x, 0, "l1 0 0 9;v9;"), 2);
        due("26: refused, nothing changes", x.back(0), STATE);
        due("27: may be UNDONE", x.count(3), 1);
        due("26: back(1)", x.back(1), 0);
        due("10: FASTEST as at first", x.ship(0, 1), 20);
        due("25: keep(0)", x.keep(0), 0);
        due("26: back(0)", x.back(0), 0);
    }

    /** "keep all SHIPS; nothing else"; what happens to ships later is not in it. */
    private static void imagesKeepShipsAlone() {
        EvenVoyage x = Checks.told("l10 0 0 9;l10 0 0 30;v40;f0 1 2 4;");
        due("5: sails", x.sails(0), 9);
        due("6: holds", x.holds(0, 2), 11);
        Checks.type(x, "abc");
        x.sees(1, 1);
        due("25: keep", x.keep(0), 2);
        due("7: moves", x.moves(0, 2, 3, 33), 1);
        due("8: fastens", x.fastens(0, 50), 40);
        due("5: sails", x.sails(0), 33);
        due("2: a letter more", x.type('d'), 4);
        due("21: one more", x.sees(2, 2), 2);
        due("26: back", x.back(0), 2);
        // BURNT: 10 miles at 10/9, 1 1/9.
        int[] want = {2, 40, 1, 11, 1, 0, 1, 2, 4};
        for (int what = 0; what < 9; what++) {
            due("10: ship(0, " + what + ")", x.ship(0, what), want[what]);
        }
        due("11: OPENS", x.leg(0, 1, 2), 0);
        due("11: CLOSES", x.leg(0, 1, 3), 30);
        due("27: THE TEXT is as it was", x.count(2), 4);
        due("27: SEEN is as it was", x.count(1), 2);
        due("6: holds", x.holds(0, 1), 12);
        due("26: back again", x.back(0), 2);
        due("10: LEAVES", x.ship(0, 3), 11);
        due("6: holds", x.holds(0, 7), 18);
        due("25: kept anew", x.keep(0), 2);
        due("9: undo", x.undo(), 0);
        due("26: back", x.back(0), 2);
        due("10: LEAVES as kept last", x.ship(0, 3), 18);
    }

    /** "(nothing can be UNDONE behind back())". */
    private static void imagesAndUndo() {
        EvenVoyage x = new EvenVoyage();
        for (int n = 0; n < 7; n++) {
            x.holds(0, 1);
        }
        due("25: keep", x.keep(0), 0);
        due("27: keep is not DONE and loses none", x.count(3), 6);
        due("9: undo behind keep", x.undo(), 5);
        due("26: back refused", x.back(1), STATE);
        due("27: loses none", x.count(3), 5);
        due("26: back", x.back(0), 0);
        due("27: none may be UNDONE", x.count(3), 0);
        due("9: none", x.undo(), STATE);
        due("10: LEAVES", x.ship(0, 3), 7);
        for (int n = 1; n <= 7; n++) {
            due("6: holds", x.holds(0, 1), 7 + n);
        }
        due("27: six anew", x.count(3), 6);
        for (int n = 5; n >= 0; n--) {
            due("9: undo", x.undo(), n);
        }
        due("9: not to what was ahead of back", x.undo(), STATE);
        due("10: LEAVES", x.ship(0, 3), 8);
    }

    /** "0 LEGS of all SHIPS, 1 SEEN, 2 letters of THE TEXT, 3 how many may be UNDONE. BAD." */
    private static void counts() {
        EvenVoyage x = Checks.told("l1 0 0 9;", "l1 0 0 9;l1 0 0 9;");
        x.sees(1, 1);
        x.sees(2, 2);
        x.sees(3, 3);
        Checks.type(x, "abcde");
        int[] want = {3, 3, 5, 2};
        for (int what = 0; what < 4; what++) {
            due("27: count(" + what + ")", x.count(what), want[what]);
        }
        int[] none = {-1, 4, 5, Integer.MIN_VALUE, Integer.MAX_VALUE};
        for (int what : none) {
            due("27: count(" + what + ")", x.count(what), BAD);
        }
        due("5: a LEG that was sailed is one still", x.sails(0), 9);
        due("27: three", x.count(0), 3);
    }

    /** "at most 512 calls": the last one is answered as the first. */
    private static void lastCall() {
        EvenVoyage x = new EvenVoyage();
        for (int n = 1; n <= 511; n++) {
            due("call " + n, n % 2 == 1 ? x.holds(0, 5) : x.undo(), n % 2 == 1 ? 5 : 0);
        }
        due("call 512", x.ship(0, 3), 5);
    }
}
