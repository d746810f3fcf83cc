/** Every sentence on where a ship is that names an edge: promises 20 to 24. */
public final class SightEdgesTest {
    private static final int BAD = -1, FULL = -3, NONE = -9;
    private static final int[] NO_SHIPS = {-1, 4, 5, -4, Integer.MIN_VALUE, Integer.MAX_VALUE};
    private static final int[] NO_HOURS = {-1, 1000, 1001, -1000, Integer.MIN_VALUE, Integer.MAX_VALUE};
    private static final Checks checks = new Checks();

    public static void main(String[] args) {
        mileAheadOfLeaving();
        mileWhileItStays();
        mileAtTheEndOfALeg();
        mileIsCut();
        mileInStretches();
        mileBehindTheLast();
        mileWithoutPlan();
        seenAtMost();
        seenBounds();
        forgotten();
        whichOfNothingSeen();
        whichOfEach();
        whichByAllSeen();
        whichAsTheyAre();
        lookAtMostOne();
        lookLowest();
        lookGreatestNumber();
        lookNoneIsAlike();
        lookLastHour();
        lookAsTheyAre();
        checks.end();
    }

    private static void due(String call, long got, long want) {
        checks.due(call, got, want);
    }

    private static void miles(EvenVoyage x, int[] hours, int[] want) {
        for (int n = 0; n < hours.length; n++) {
            due("20: mile(0, " + hours[n] + ")", x.mile(0, hours[n]), want[n]);
        }
    }

    /** "up to the hour at which it LEAVES: MILES of all LEGS up to the PORT AT which it lies". */
    private static void mileAheadOfLeaving() {
        EvenVoyage x = Checks.told("l30 5 0 10;l40 0 0 55;");
        miles(x, new int[] {0, 1}, new int[] {0, 3});
        due("6: held up", x.holds(0, 4), 4);
        miles(x, new int[] {0, 3, 4, 5, 6}, new int[] {0, 0, 0, 5, 10});
        due("5: sails", x.sails(0), 15);
        miles(x, new int[] {0, 4, 9, 14, 15, 16, 17}, new int[] {30, 30, 30, 30, 30, 31, 32});
        due("6: held up", x.holds(0, 20), 35);
        miles(x, new int[] {0, 15, 35, 36}, new int[] {30, 30, 30, 32});
    }

    /** "while it STAYS in a PORT .. all up to there". */
    private static void mileWhileItStays() {
        // At port 1 from 10 to 19, at port 2 from 29 to 38.
        EvenVoyage x = Checks.told("l20 9 10 10;l20 9 29 29;l20 9 48 48;");
        int[] hours = {9, 10, 11, 18, 19, 20, 28, 29, 30, 37, 38, 39, 47, 48};
        int[] want = {18, 20, 20, 20, 20, 22, 38, 40, 40, 40, 40, 42, 58, 60};
        miles(x, hours, want);
        // From 5/2 to 11/2: no whole hour at either end.
        EvenVoyage y = Checks.told("l10 3 0 9;l10 0 0 8;");
        miles(y, new int[] {2, 3, 4, 5, 6, 7, 8}, new int[] {8, 10, 10, 10, 12, 16, 20});
    }

    /** At u: the leg is behind; no stay. */
    private static void mileAtTheEndOfALeg() {
        EvenVoyage x = Checks.told("l10 0 0 2;l10 0 0 12;");
        miles(x, new int[] {1, 2, 3, 11, 12, 13}, new int[] {5, 10, 11, 19, 20, 20});
        due("20: one mile in one hour", Checks.told("l1 0 0 1;").mile(0, 1), 1);
        due("20: 60 miles in one hour", Checks.told("l60 0 0 1;v60;").mile(0, 1), 60);
    }

    /** "cut to a whole number". */
    private static void mileIsCut() {
        EvenVoyage x = Checks.told("l2 0 0 3;");
        miles(x, new int[] {1, 2, 3}, new int[] {0, 1, 2});
        EvenVoyage y = Checks.told("l99 0 0 100;");
        miles(y, new int[] {1, 50, 99, 100}, new int[] {0, 49, 98, 99});
        // A leg that begins at 3/2: 1/2 an hour in it is 2/3 of a mile, none yet.
        EvenVoyage z = Checks.told("l2 0 0 9;l2 0 0 3;");
        miles(z, new int[] {1, 2, 3}, new int[] {1, 2, 4});
        EvenVoyage w = Checks.told("l1 0 0 9;l2 0 0 4;");
        // Legs from 0 to 4/3 and to 4: at 2 it is 1/2 a mile into the second, at 3 it is 5/4.
        miles(w, new int[] {1, 2, 3, 4}, new int[] {0, 1, 2, 3});
        due("20: a mile in 999 hours", Checks.told("l1 0 0 999;").mile(0, 998), 0);
        due("20: and then", Checks.told("l1 0 0 999;").mile(0, 999), 1);
    }

    /** Each leg by the hours of its own. */
    private static void mileInStretches() {
        // Closed at 4 (HIGH), at 20 (LOW).
        EvenVoyage x = Checks.told("l40 0 0 4;l8 0 20 99;l60 0 0 24;");
        miles(x, new int[] {1, 4, 6, 12, 20, 21, 24}, new int[] {10, 40, 41, 44, 48, 63, 108});
    }

    /** "and behind the last TIME: all up to there"; hours 0 to 999. */
    private static void mileBehindTheLast() {
        EvenVoyage x = Checks.told("l99 9 0 999;".repeat(6) + "v60;");
        due("20: the last hour", x.mile(0, 999), 594);
        due("20: the hour ahead of it", x.mile(0, 998), 593);
        EvenVoyage y = Checks.told("l7 9 0 9;");
        miles(y, new int[] {8, 9, 10, 18, 19, 999}, new int[] {6, 7, 7, 7, 7, 7});
        for (int h : NO_HOURS) {
            due("20: mile(0, " + h + ")", y.mile(0, h), BAD);
            due("20: BAD ahead of NONE, mile(1, " + h + ")", y.mile(1, h), BAD);
        }
        for (int i : NO_SHIPS) {
            due("20: mile(" + i + ", 0)", y.mile(i, 0), BAD);
            due("20: mile(" + i + ", 999)", y.mile(i, 999), BAD);
        }
        due("20: hour 0", y.mile(0, 0), 0);
    }

    /** "NONE: it has no PLAN", where it lies and at any hour. */
    private static void mileWithoutPlan() {
        EvenVoyage x = Checks.told("l10 0 0 9;", "l21 0 0 1;");
        due("5: to the end", x.sails(0), 9);
        for (int i = 0; i < 3; i++) {
            due("20: mile(" + i + ", 0)", x.mile(i, 0), NONE);
            due("20: mile(" + i + ", 999)", x.mile(i, 999), NONE);
        }
    }

    /** "SEEN (6 at most)"; "FULL: 6". */
    private static void seenAtMost() {
        EvenVoyage x = new EvenVoyage();
        for (int n = 1; n <= 6; n++) {
            due("21: the same again counts", x.sees(5, 5), n);
        }
        due("21: a seventh", x.sees(5, 5), FULL);
        due("21: BAD ahead of FULL", x.sees(-1, 5), BAD);
        due("21: BAD ahead of FULL", x.sees(5, 1000), BAD);
        due("27: six", x.count(1), 6);
        due("22: forget", x.forget(), 6);
        due("21: there is room again", x.sees(0, 0), 1);
    }

    /** "SEEN (h, m 0 .. 999)". */
    private static void seenBounds() {
        EvenVoyage x = new EvenVoyage();
        for (int wrong : NO_HOURS) {
            due("21: sees(" + wrong + ", 0)", x.sees(wrong, 0), BAD);
            due("21: sees(0, " + wrong + ")", x.sees(0, wrong), BAD);
        }
        due("27: none of them is SEEN", x.count(1), 0);
        due("21: least", x.sees(0, 0), 1);
        due("21: greatest h", x.sees(999, 0), 2);
        due("21: greatest m", x.sees(0, 999), 3);
        due("21: greatest", x.sees(999, 999), 4);
        due("27: SEEN", x.count(1), 4);
        due("27: nothing of it can be UNDONE", x.count(3), 0);
    }

    /** "Nothing is SEEN: how much was." */
    private static void forgotten() {
        EvenVoyage x = new EvenVoyage();
        due("22: nothing was", x.forget(), 0);
        x.sees(1, 1);
        due("23: none", x.which(), 0);
        due("22: one", x.forget(), 1);
        due("22: none is left", x.forget(), 0);
        due("27: none is left", x.count(1), 0);
        due("23: all again", x.which(), 15);
    }

    private static void whichOfNothingSeen() {
        EvenVoyage x = new EvenVoyage();
        due("23: all, plan or not", x.which(), 15);
        Checks.tell(x, 2, "l9 0 0 9;");
        due("23: all", x.which(), 15);
        x.sees(0, 0);
        due("23: no PLAN, no MILE", x.which(), 4);
        due("7: no plan for 2 either", x.moves(2, 1, 0, 0), 1);
        due("23: none", x.which(), 0);
    }

    /** "as bits". */
    private static void whichOfEach() {
        EvenVoyage x = Checks.told("l11 0 0 9;", "l12 0 0 9;", "l13 0 0 9;", "l14 0 0 9;");
        for (int i = 0; i < 4; i++) {
            x.sees(9, 11 + i);
            due("23: ship " + i, x.which(), 1 << i);
            x.forget();
        }
        x.sees(9, 10);
        due("23: none", x.which(), 0);
        x.forget();
        x.sees(0, 0);
        due("23: all", x.which(), 15);
        x.forget();
        // At 1: 11/9, 12/9, 13/9, 14/9, cut to 1; at 2: 22/9, 24/9, 26/9 to 2, 28/9 to 3.
        x.sees(1, 1);
        due("23: all still", x.which(), 15);
        x.sees(2, 2);
        due("23: three", x.which(), 7);
    }

    /** "of which all that was SEEN is so": the first and the sixth as well. */
    private static void whichByAllSeen() {
        EvenVoyage x = Checks.told("l10 0 0 10;", "l10 0 0 5;");
        for (int n = 0; n < 5; n++) {
            x.sees(0, 0);
        }
        due("23: both", x.which(), 3);
        due("21: the sixth", x.sees(5, 5), 6);
        due("23: by the sixth", x.which(), 1);
        x.forget();
        x.sees(5, 10);
        for (int n = 0; n < 5; n++) {
            x.sees(0, 0);
        }
        due("23: by the first", x.which(), 2);
        due("21: one too many", x.sees(5, 5), FULL);
        due("23: it is not SEEN", x.which(), 2);
        x.forget();
        x.sees(5, 5);
        x.sees(5, 10);
        due("23: two miles at one hour", x.which(), 0);
    }

    /** "as they are when WHICH, LOOK are asked". */
    private static void whichAsTheyAre() {
        EvenVoyage x = Checks.told("l10 0 0 10;l10 0 0 20;");
        x.sees(5, 5);
        due("23: is so", x.which(), 1);
        due("6: held up", x.holds(0, 5), 5);
        due("23: not any more", x.which(), 0);
        due("9: undo", x.undo(), 1);
        due("23: is so again", x.which(), 1);
        due("25: keep", x.keep(0), 2);
        due("5: sails", x.sails(0), 10);
        due("23: lies at mile 10 then", x.which(), 0);
        due("26: back", x.back(0), 2);
        due("23: is so again", x.which(), 1);
        due("8: too slow", x.fastens(0, 1), 20);
        due("23: just fast enough", x.which(), 1);
        due("7: earlier", x.moves(0, 2, 0, 19), 1);
        due("23: no PLAN", x.which(), 0);
    }

    /** "NONE (one can be at most)". */
    private static void lookAtMostOne() {
        EvenVoyage x = Checks.told("l10 0 0 10;", "l10 0 0 5;");
        x.sees(0, 0);
        due("24: two", x.look(), 1);
        x.sees(5, 5);
        due("23: one", x.which(), 1);
        due("24: one", x.look(), NONE);
        x.sees(6, 999);
        due("23: none", x.which(), 0);
        due("24: none", x.look(), NONE);
    }

    /** "of several the lowest"; hour 0 if it is all the same. */
    private static void lookLowest() {
        EvenVoyage x = Checks.told("l10 0 0 10;", "l10 0 0 10;");
        x.sees(0, 0);
        due("24: never apart", x.look(), 0);
        EvenVoyage y = Checks.told("l10 0 0 10;", "l10 0 0 9;");
        y.sees(0, 0);
        // At 5: 5 and 5 5/9; at 9: 9 and 10 for the first time.
        due("24: the first hour apart", y.look(), 9);
        EvenVoyage z = Checks.told("l10 0 0 10;l10 0 0 30;", "l10 0 0 10;l10 0 0 30;");
        z.sails(1);
        // One lies at 0, the other at 10, from hour 0 on.
        due("24: hour 0, apart", z.look(), 0);
        z.sees(10, 10);
        due("24: hour 0 still", z.look(), 0);
    }

    /** "the greatest number of these whose MILE is alike is least": not how many kinds there are. */
    private static void lookGreatestNumber() {
        // At 1: 2, 2, 1, 1; from 4 on: 8, 8, 5, 4. Two are alike at most, at 1 already.
        EvenVoyage x = Checks.told("l20 0 0 10;", "l20 0 0 10;", "l20 0 0 15;", "l20 0 0 20;");
        due("24: two and two", x.look(), 1);
        // At 1: 3, 1, 1, 1 (three alike); at 4: 12, 5, 4, 4 (two); never all apart.
        EvenVoyage y = Checks.told("l30 0 0 10;", "l30 0 0 23;", "l30 0 0 30;", "l30 0 0 30;");
        due("24: three and one, then two", y.look(), 4);
        // At 1: 4, 3, 2, 1.
        EvenVoyage z = Checks.told("l40 0 0 10;", "l30 0 0 10;", "l20 0 0 10;", "l10 0 0 10;");
        due("24: all apart", z.look(), 1);
        z.sees(0, 0);
        due("24: all apart, of all", z.look(), 1);
    }

    /** "(NONE: alike, too)". */
    private static void lookNoneIsAlike() {
        due("24: four without PLAN", new EvenVoyage().look(), 0);
        // Two without a plan are alike at every hour: two at least; at 0 the other two are alike as well.
        EvenVoyage x = Checks.told("l10 0 0 10;", "l10 0 0 5;");
        due("24: two and two", x.look(), 0);
        // One without a plan: three are alike at 0; at 1 they are at 3, 2, 1 and the fourth at NONE.
        EvenVoyage y = Checks.told("l30 0 0 10;", "l20 0 0 10;", "l10 0 0 10;");
        due("24: one without", y.look(), 1);
        // Three without a plan: three alike, whatever the fourth does.
        due("24: three without", Checks.told("l10 0 0 10;").look(), 0);
    }

    /** "the hour (0 to 99)". */
    private static void lookLastHour() {
        EvenVoyage x = Checks.told("l1 0 0 99;", "l1 0 0 100;");
        x.sees(0, 0);
        due("24: apart at 99 alone", x.look(), 99);
        due("7: both at 100 or later", x.moves(0, 1, 0, 101), 1);
        due("24: apart at 100 alone", x.look(), 0);
    }

    private static void lookAsTheyAre() {
        EvenVoyage x = Checks.told("l10 0 0 10;", "l10 0 0 10;");
        x.sees(0, 0);
        due("24: alike", x.look(), 0);
        due("6: held up", x.holds(1, 3), 3);
        due("24: apart at 1", x.look(), 1);
        x.sees(1, 1);
        due("24: one is left", x.look(), NONE);
        due("9: undo", x.undo(), 2);
        due("24: two again, alike", x.look(), 0);
        // Ship 0 is at 1 from 10 on: once it can't be meant, it is alike to none of the others.
        EvenVoyage y = Checks.told("l1 0 0 10;", "l1 0 0 20;", "l1 0 0 21;");
        due("24: at 10 two are at 0, and one without a PLAN", y.look(), 10);
        y.sees(10, 0);
        due("23: the other two", y.which(), 6);
        due("24: at 20 alone they are apart", y.look(), 20);
    }
}
