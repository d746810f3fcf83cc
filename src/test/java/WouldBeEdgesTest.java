/** Every sentence on SLACK, NEEDS and EASED that names an edge: promises 17 to 19. */
public final class WouldBeEdgesTest {
    private static final int BAD = -1, NONE = -9;
    private static final int[] NO_SHIPS = {-1, 4, 5, -4, Integer.MIN_VALUE, Integer.MAX_VALUE};
    private static final Checks checks = new Checks();

    public static void main(String[] args) {
        slackGreatest();
        slackNone();
        slackUnderWay();
        needsLeast();
        needsBeyondBounds();
        needsNone();
        easedLeast();
        easedLessThanNow();
        easedWithoutPlan();
        easedFirstOfSeveral();
        easedBeyondBounds();
        easedAheadAlone();
        checks.end();
    }

    private static void due(String call, long got, long want) {
        checks.due(call, got, want);
    }

    /** "the greatest h (0 to 99)". */
    private static void slackGreatest() {
        due("17: 20 miles in the last hour", Checks.told("l20 0 0 10;").slack(0), 9);
        due("17: 21 miles need two", Checks.told("l21 0 0 10;").slack(0), 8);
        due("17: 0", Checks.told("l20 0 0 1;").slack(0), 0);
        due("17: 98", Checks.told("l20 0 0 99;").slack(0), 98);
        due("17: 99", Checks.told("l20 0 0 100;").slack(0), 99);
        due("17: 99 at most", Checks.told("l20 0 0 101;").slack(0), 99);
        due("17: 99 at most", Checks.told("l1 0 0 999;").slack(0), 99);
        // A port between binds: it closes at 5, the last at 99.
        due("17: by a port between", Checks.told("l20 0 0 5;l20 0 0 99;").slack(0), 4);
        // Stays are none of the hours at sea: 40 miles in 20 less 9 less h.
        due("17: by a stay", Checks.told("l20 9 0 99;l20 0 0 20;").slack(0), 9);
        // Too slow between ports, however early it leaves.
        due("17: by no hour", Checks.told("l1 0 9 9;l21 0 0 10;").slack(0), NONE);
    }

    /** "there is a PLAN; NONE." */
    private static void slackNone() {
        EvenVoyage x = Checks.told("l21 0 0 1;", "l1 0 0 0;", "", "l1 0 0 5;");
        due("17: too fast", x.slack(0), NONE);
        due("17: no hour", x.slack(1), NONE);
        due("17: no legs", x.slack(2), NONE);
        due("5: to the end", x.sails(3), 5);
        due("17: at the end", x.slack(3), NONE);
        for (int i : NO_SHIPS) {
            due("17: slack(" + i + ")", x.slack(i), BAD);
        }
        EvenVoyage late = Checks.told("l1 0 0 999;");
        for (int n = 1; n <= 101; n++) {
            late.holds(0, 99);
        }
        due("10: leaves", late.ship(0, 3), 9999);
        due("17: leaves as late as may be", late.slack(0), NONE);
        due("18: leaves as late as may be", late.needs(0), NONE);
        due("19: leaves as late as may be", late.eased(0), NONE);
    }

    /** From the hour at which it LEAVES; nothing is changed. */
    private static void slackUnderWay() {
        EvenVoyage x = Checks.told("l20 0 0 10;l20 0 0 30;");
        due("5: sails", x.sails(0), 10);
        due("17: from 10", x.slack(0), 19);
        due("6: held up", x.holds(0, 19), 29);
        due("17: none is left", x.slack(0), 0);
        due("12: there is a plan", x.plan(0, 0), 1);
        due("6: held up", x.holds(0, 1), 30);
        due("17: too late", x.slack(0), NONE);
        due("10: leaves as before", x.ship(0, 3), 30);
        due("27: asking is not DONE", x.count(3), 4);
    }

    /** "the least FASTEST". */
    private static void needsLeast() {
        due("18: 20 in 10", Checks.told("l20 0 0 10;").needs(0), 2);
        due("18: 21 in 10", Checks.told("l21 0 0 10;").needs(0), 3);
        due("18: 19 in 10", Checks.told("l19 0 0 10;").needs(0), 2);
        due("18: 1 at least", Checks.told("l1 0 0 999;").needs(0), 1);
        due("18: 10 in 10", Checks.told("l10 0 0 10;").needs(0), 1);
        due("18: 11 in 10", Checks.told("l11 0 0 10;").needs(0), 2);
        // The fastest stretch counts: the first, one between, the last.
        due("18: the first", Checks.told("l10 0 0 1;l10 0 0 99;l10 0 0 99;").needs(0), 10);
        due("18: one between", Checks.told("l1 0 5 99;l12 0 0 6;l1 0 0 99;").needs(0), 12);
        due("18: the last", Checks.told("l1 0 9 99;l13 0 0 10;").needs(0), 13);
        // Whatever its FASTEST is.
        due("18: by a slow ship", Checks.told("l20 0 0 10;v1;").needs(0), 2);
        due("18: by a fast ship", Checks.told("l20 0 0 10;v60;").needs(0), 2);
    }

    /** "(1 to 999, as if that could be)". */
    private static void needsBeyondBounds() {
        due("18: 60", Checks.told("l60 0 0 1;").needs(0), 60);
        due("18: 61", Checks.told("l61 0 0 1;v60;").needs(0), 61);
        due("18: 99", Checks.told("l99 0 0 1;").needs(0), 99);
        due("18: the greatest", Checks.told("l99 0 0 9;".repeat(5) + "l99 0 0 1;").needs(0), 594);
    }

    private static void needsNone() {
        EvenVoyage x = Checks.told("l1 0 0 0;", "l1 0 6 6;l1 0 5 5;l1 0 0 99;", "", "l1 0 5 5;l1 0 5 5;");
        due("18: b = a", x.needs(0), NONE);
        due("18: b below a", x.needs(1), NONE);
        due("18: no legs", x.needs(2), NONE);
        due("18: b = a between", x.needs(3), NONE);
        for (int i : NO_SHIPS) {
            due("18: needs(" + i + ")", x.needs(i), BAD);
        }
        EvenVoyage y = Checks.told("l1 0 0 5;v7;");
        due("18: needs", y.needs(0), 1);
        due("10: FASTEST as before", y.ship(0, 1), 7);
        due("27: asking is not DONE", y.count(3), 1);
        due("5: to the end", y.sails(0), 5);
        due("18: at the end", y.needs(0), NONE);
    }

    /** "twice the PORT and that number": OPENS 1 less (0), CLOSES 1 more (1). */
    private static void easedLeast() {
        due("19: CLOSES of 1", Checks.told("l50 0 0 3;l50 0 0 30;").eased(0), 3);
        due("19: OPENS of 1", Checks.told("l50 0 27 30;l50 0 0 30;").eased(0), 2);
        due("19: CLOSES of 2", Checks.told("l50 0 0 30;l50 0 0 10;").eased(0), 5);
        due("19: OPENS of 2", Checks.told("l20 0 0 99;l20 0 47 99;l60 0 0 50;").eased(0), 4);
        due("19: CLOSES of 6", Checks.told("l10 0 0 99;".repeat(5) + "l10 0 0 6;").eased(0), 13);
        due("19: OPENS of 5", Checks.told("l5 0 0 99;".repeat(4) + "l5 0 27 99;l60 0 0 30;").eased(0), 10);
    }

    /** "less than they are now": alike is not enough. */
    private static void easedLessThanNow() {
        due("19: flat", Checks.told("l50 0 0 5;f3 3 3 3;").eased(0), NONE);
        // 10 miles at 1 an hour: 11; at 10/11: 10 10/11, cut to 10; at 20/23 and so on 10 as well.
        EvenVoyage x = Checks.told("l10 0 0 10;");
        due("12: COSTS", x.plan(0, 1), 11);
        due("19: one less", x.eased(0), 3);
        due("7: so much later", x.moves(0, 1, 0, 11), 1);
        due("12: COSTS", x.plan(0, 1), 10);
        due("19: 10 and 10", x.eased(0), NONE);
        // Nothing is burnt up to 10 miles an hour: there is nothing to save.
        due("19: 0 and 0", Checks.told("l10 0 0 9;l10 0 0 99;l10 0 0 20;f0 0 5 10;").eased(0), NONE);
    }

    /** "or, if there is no PLAN now, any"; the least of them. */
    private static void easedWithoutPlan() {
        due("19: an hour more", Checks.told("l21 0 0 1;v20;").eased(0), 3);
        due("19: dearer than nothing", Checks.told("l99 0 0 2;v33;f999 999 999 999;").eased(0), 3);
        due("19: b = a now", Checks.told("l20 0 0 0;").eased(0), 3);
        due("19: b below a by one hour", Checks.told("l1 2 0 9;l1 0 0 1;").eased(0), NONE);
        due("19: an hour is not enough", Checks.told("l41 0 0 1;v20;").eased(0), NONE);
        due("19: no legs", new EvenVoyage().eased(0), NONE);
        // OPENS of 1 at 2: 15 and 60; CLOSES of 2 at 6: 13 and 60.
        due("19: the least, not the first", Checks.told("l10 0 3 3;l30 0 0 5;v10;").eased(0), 5);
        EvenVoyage x = Checks.told("l1 0 0 9;");
        x.sails(0);
        due("19: at the end", x.eased(0), NONE);
        for (int i : NO_SHIPS) {
            due("19: eased(" + i + ")", x.eased(i), BAD);
        }
    }

    /** "of several the first (by PORT, then 0 ahead of 1)". */
    private static void easedFirstOfSeveral() {
        // 28 and 13 now; by CLOSES of 1: 27 and 13, by CLOSES of 2: 28 and 12.
        due("19: 3 ahead of 5", Checks.told("l20 0 1 5;l10 0 0 8;v10;").eased(0), 3);
        // 87 now; 85 by OPENS of 1 and by CLOSES of 3.
        due("19: 2 ahead of 7", Checks.told("l10 0 4 5;l30 0 7 10;l20 0 0 14;v10;").eased(0), 2);
        // 87 now; 86 by CLOSES of 1, OPENS of 2, CLOSES of 3.
        due("19: 3 ahead of 4 and 7", Checks.told("l20 0 0 3;l10 0 6 8;l30 0 11 14;").eased(0), 3);
        // No plan now: 12 and 60 by OPENS of 1, and by CLOSES of 2.
        due("19: 2 ahead of 5, no plan now", Checks.told("l10 0 5 7;l30 0 0 7;v10;").eased(0), 2);
        // All alike, no plan now: 0 burnt by either.
        due("19: 2 ahead of 5, nothing burnt", Checks.told("l10 0 5 7;l30 0 0 7;v10;f0 0 0 0;").eased(0), 2);
    }

    /** "both as if they could be beyond their bounds". */
    private static void easedBeyondBounds() {
        // 90 miles at 90/999: 270; at 90/1000: 269 73/100.
        EvenVoyage x = Checks.told("l90 0 0 999;f0 333 666 999;");
        due("12: COSTS", x.plan(0, 1), 270);
        due("19: CLOSES 1000", x.eased(0), 3);
        due("11: CLOSES as before", x.leg(0, 0, 3), 999);
        // It leaves at 999: there is a plan by CLOSES 1000 alone.
        EvenVoyage y = Checks.told("l1 0 999 999;");
        for (int n = 0; n < 10; n++) {
            y.holds(0, 99);
        }
        due("6: leaves", y.holds(0, 9), 999);
        due("12: no plan", y.plan(0, 0), NONE);
        due("19: CLOSES 1000 of no plan", y.eased(0), 3);
        // OPENS 0 is tried at -1 and changes nothing there.
        due("19: OPENS below 0", Checks.told("l20 0 0 1;v20;f5 5 5 5;").eased(0), NONE);
        EvenVoyage z = Checks.told("l20 0 0 4;");
        due("19: OPENS below 0", z.eased(0), 3);
        due("11: OPENS as before", z.leg(0, 0, 2), 0);
        due("27: asking is not DONE", z.count(3), 1);
    }

    /** "of all PORTS AHEAD", "COSTS of all LEGS AHEAD": what lies behind is of no weight. */
    private static void easedAheadAlone() {
        // Speeds 25, 12 1/2 and some 1: an hour saves most at the first port that is AHEAD.
        EvenVoyage x = Checks.told("l50 0 0 2;l50 0 0 6;l50 0 0 60;v60;f0 100 300 900;");
        due("19: port 1", x.eased(0), 3);
        due("5: sails", x.sails(0), 2);
        due("19: port 2", x.eased(0), 5);
        due("5: sails", x.sails(0), 6);
        due("19: port 3", x.eased(0), 7);
    }
}
