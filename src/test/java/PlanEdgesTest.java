/** Every sentence on plans that names an edge: promises 10 to 16, and "A PLAN of a SHIP" under "Terms". */
public final class PlanEdgesTest {
    private static final int BAD = -1, STATE = -2, NONE = -9, NO = -1000000, NOT = -2000000;
    private static final int[] FIRST = {0, 20, 0, 0, 0, 1, 2, 4, 8};
    private static final Checks checks = new Checks();

    public static void main(String[] args) {
        atFirst();
        numbersOfShips();
        numbersOfLegs();
        portsAhead();
        noPortAhead();
        waits();
        lastPort();
        evenOnTheEdge();
        missedByAFraction();
        missedMost();
        missedAlike();
        lowOrHigh();
        fallsOnAndOn();
        hoursOfAStretch();
        asFastAsMayBe();
        anyStretch();
        shiftedBelowZero();
        times();
        speeds();
        closed();
        fuel();
        costsAreCut();
        whatIsAsked();
        noPlan();
        checks.end();
    }

    private static void due(String call, long got, long want) {
        checks.due(call, got, want);
    }

    private static void time(EvenVoyage x, int port, int upper, int lower) {
        due("13: upper of TIME at " + port, x.time(0, port, 0), upper);
        due("13: lower of TIME at " + port, x.time(0, port, 1), lower);
    }

    private static void speed(EvenVoyage x, int k, int upper, int lower) {
        due("14: upper of SPEED of " + k, x.speed(0, k, 0), upper);
        due("14: lower of SPEED of " + k, x.speed(0, k, 1), lower);
    }

    /** How many stretches stay, and CLOSED at each port from 1 on. */
    private static void falls(EvenVoyage x, int stretches, int... sides) {
        due("12: STRETCHES", x.plan(0, 0), stretches);
        for (int n = 0; n < sides.length; n++) {
            due("15: CLOSED at " + (n + 1), x.closed(0, n + 1), sides[n]);
        }
    }

    /** "At first a SHIP has no LEGS, FASTEST 20, the TABLE 1, 2, 4, 8"; AT 0, LEAVES 0, BURNT 0. */
    private static void atFirst() {
        EvenVoyage x = new EvenVoyage();
        for (int i = 0; i < 4; i++) {
            for (int what = 0; what < 9; what++) {
                due("10: ship(" + i + ", " + what + ")", x.ship(i, what), FIRST[what]);
            }
            due("11: no leg 0 of " + i, x.leg(i, 0, 0), BAD);
            due("12: no plan of " + i, x.plan(i, 0), NONE);
        }
    }

    /** "SHIPS 0 to 3"; "0 LEGS .. 5 to 8 the TABLE. BAD." */
    private static void numbersOfShips() {
        EvenVoyage x = new EvenVoyage();
        for (int i = 0; i < 4; i++) {
            due("8: another FASTEST each", x.fastens(i, 31 + i), 20);
        }
        for (int i = 0; i < 4; i++) {
            due("10: each its own", x.ship(i, 1), 31 + i);
        }
        int[] none = {-1, 4, 5, 256, -4, Integer.MIN_VALUE, Integer.MAX_VALUE};
        for (int i : none) {
            due("10: ship(" + i + ", 0)", x.ship(i, 0), BAD);
            due("10: ship(" + i + ", 8)", x.ship(i, 8), BAD);
        }
        int[] nothing = {-1, 9, 10, 256, Integer.MIN_VALUE, Integer.MAX_VALUE};
        for (int what : nothing) {
            due("10: ship(0, " + what + ")", x.ship(0, what), BAD);
            due("10: ship(3, " + what + ")", x.ship(3, what), BAD);
        }
    }

    /** "Of a LEG: 0 MILES, 1 STAY, 2 OPENS, 3 CLOSES. BAD." */
    private static void numbersOfLegs() {
        EvenVoyage x = Checks.told("l1 2 3 4;l5 6 7 8;l9 0 1 2;l3 4 5 6;l7 8 9 10;l11 1 12 13;", "l1 0 0 9;");
        int[] row = {1, 2, 3, 4, 5, 6, 7, 8, 9, 0, 1, 2, 3, 4, 5, 6, 7, 8, 9, 10, 11, 1, 12, 13};
        for (int n = 0; n < row.length; n++) {
            due("11: leg(0, " + n / 4 + ", " + n % 4 + ")", x.leg(0, n / 4, n % 4), row[n]);
        }
        int[] none = {-1, 6, 7, Integer.MIN_VALUE, Integer.MAX_VALUE, 1 << 30, -(1 << 30)};
        for (int k : none) {
            due("11: leg(0, " + k + ", 0)", x.leg(0, k, 0), BAD);
        }
        due("11: one leg of 1", x.leg(1, 0, 3), 9);
        due("11: no second", x.leg(1, 1, 0), BAD);
        int[] nothing = {-1, 4, 5, Integer.MIN_VALUE, Integer.MAX_VALUE};
        for (int what : nothing) {
            due("11: leg(0, 0, " + what + ")", x.leg(0, 0, what), BAD);
            due("11: leg(0, 5, " + what + ")", x.leg(0, 5, what), BAD);
        }
        int[] noShips = {-1, 4, Integer.MIN_VALUE, Integer.MAX_VALUE};
        for (int i : noShips) {
            due("11: leg(" + i + ", 0, 0)", x.leg(i, 0, 0), BAD);
        }
        x.sails(1);
        due("11: a LEG behind is told as well", x.leg(1, 0, 0), 1);
    }

    /** "AHEAD are the PORTS behind that AT which it lies"; "the PORT is not AHEAD, too". */
    private static void portsAhead() {
        EvenVoyage x = Checks.told("l10 0 0 99;l10 0 0 99;l10 0 0 99;l10 0 0 99;l10 0 0 99;l10 0 0 60;");
        for (int at = 0; at < 6; at++) {
            due("10: AT", x.ship(0, 2), at);
            for (int port = -1; port <= 8; port++) {
                boolean ahead = port > at && port <= 6;
                due("13: time at " + port + " from " + at, x.time(0, port, 0), ahead ? 10 * port : NO);
                due("15: closed at " + port + " from " + at, x.closed(0, port), ahead ? 0 : BAD);
                boolean legAhead = port >= at && port < 6;
                due("14: speed of " + port + " from " + at, x.speed(0, port, 0), legAhead ? 1 : NO);
                due("16: cost of " + port + " from " + at, x.cost(0, port), legAhead ? 11 : BAD);
            }
            due("5: sails on", x.sails(0), 10 * at + 10);
        }
        for (int port = -1; port <= 8; port++) {
            due("13: none is ahead", x.time(0, port, 0), NO);
            due("14: none is ahead", x.speed(0, port, 0), NO);
            due("15: none is ahead", x.closed(0, port), BAD);
            due("16: none is ahead", x.cost(0, port), BAD);
        }
    }

    /** "There is no PLAN, if no PORT is AHEAD". */
    private static void noPortAhead() {
        EvenVoyage x = Checks.told("l1 0 0 9;", "v60;f0 0 0 9;");
        due("12: one", x.plan(0, 0), 1);
        due("5: to the end", x.sails(0), 9);
        for (int i = 0; i < 2; i++) {
            due("12: plan(" + i + ", 0)", x.plan(i, 0), NONE);
            due("12: plan(" + i + ", 1)", x.plan(i, 1), NONE);
            due("5: sails(" + i + ")", x.sails(i), STATE);
            due("17: slack(" + i + ")", x.slack(i), NONE);
            due("18: needs(" + i + ")", x.needs(i), NONE);
            due("19: eased(" + i + ")", x.eased(i), NONE);
            due("20: mile(" + i + ", 0)", x.mile(i, 0), NONE);
            due("20: mile(" + i + ", 999)", x.mile(i, 999), NONE);
        }
    }

    /** "WAIT at a PORT AHEAD: the STAYS of all PORTS AHEAD of which the number is lower, together." */
    private static void waits() {
        // HIGH at the last is 99 less 5 and 7: 30 miles in 87 hours; its own stay of 9 is not in it.
        EvenVoyage x = Checks.told("l10 5 0 99;l10 7 0 99;l10 9 0 99;");
        time(x, 1, 29, 1);
        time(x, 2, 63, 1);
        time(x, 3, 99, 1);
        due("5: 29 and 5", x.sails(0), 34);
        // The stay of the port where it lies is behind it: 20 miles in 99 less 7 less 34 hours.
        time(x, 2, 63, 1);
        time(x, 3, 99, 1);
        speed(x, 1, 10, 29);
        due("5: 63 and 7", x.sails(0), 70);
        time(x, 3, 99, 1);
        due("5: 99 and 9", x.sails(0), 108);
        // Windows are met by the hour at which it comes in, stays and all.
        EvenVoyage y = Checks.told("l10 9 10 10;l10 9 29 29;l10 0 48 48;");
        falls(y, 1, 0, 0, 0);
        time(y, 2, 29, 1);
        // An hour to and fro at port 2: EVEN at port 1 is half an hour off then.
        falls(Checks.told("l10 9 10 10;l10 9 28 28;l10 0 48 48;"), 3, 1, 2, 0);
        falls(Checks.told("l10 9 10 10;l10 9 30 30;l10 0 48 48;"), 3, 2, 1, 0);
    }

    /** "to the last PORT with HIGH there": its OPENS are of no weight, nor is its STAY. */
    private static void lastPort() {
        EvenVoyage x = Checks.told("l10 0 0 9;", "l10 9 9 9;", "l10 0 9 9;");
        for (int i = 0; i < 3; i++) {
            due("13: at its HIGH", x.time(i, 1, 0), 9);
            due("15: none of two stretches", x.closed(i, 1), 0);
            due("12: one stretch", x.plan(i, 0), 1);
        }
        due("5: a stay of 9", x.sails(1), 18);
    }

    /** "It MISSES, at k, by how much EVEN is below LOW, or above HIGH": on the edge it does not. */
    private static void evenOnTheEdge() {
        falls(Checks.told("l10 0 5 5;l10 0 0 10;"), 1, 0, 0);
        falls(Checks.told("l10 0 5 99;l10 0 0 10;"), 1, 0, 0);
        falls(Checks.told("l10 0 6 99;l10 0 0 10;"), 2, 1, 0);
        falls(Checks.told("l10 0 0 5;l10 0 0 10;"), 1, 0, 0);
        falls(Checks.told("l10 0 0 4;l10 0 0 10;"), 2, 2, 0);
    }

    private static void missedByAFraction() {
        // EVEN is 5/3: missed by 1/3 below 2, by 2/3 above 1.
        EvenVoyage x = Checks.told("l1 0 2 9;l2 0 0 5;");
        falls(x, 2, 1, 0);
        time(x, 1, 2, 1);
        EvenVoyage y = Checks.told("l1 0 0 1;l2 0 0 5;");
        falls(y, 2, 2, 0);
        time(y, 1, 1, 1);
        EvenVoyage z = Checks.told("l1 0 1 2;l2 0 0 5;");
        falls(z, 1, 0, 0);
        time(z, 1, 5, 3);
        // By 1/100: EVEN is 98 1/100, then 99/100.
        falls(Checks.told("l99 0 0 98;l1 0 0 99;"), 2, 2, 0);
        falls(Checks.told("l99 0 0 99;l1 0 0 99;"), 1, 0, 0);
        falls(Checks.told("l1 0 1 9;l99 0 0 99;"), 2, 1, 0);
        falls(Checks.told("l1 0 0 1;l99 0 0 99;"), 1, 0, 0);
    }

    /** "at that at which it MISSES most". */
    private static void missedMost() {
        // EVEN is 10, 20, 30: missed by 1 and 4; once split at 2 (16), port 1 is at 8 and missed no more.
        EvenVoyage x = Checks.told("l10 0 0 9;l10 0 0 16;l10 0 0 99;l10 0 0 40;");
        falls(x, 2, 0, 2, 0, 0);
        time(x, 1, 8, 1);
        time(x, 3, 28, 1);
        // The other way round: by 4 at 1 and 1 at 2; port 2 is at 22 2/3 then.
        EvenVoyage y = Checks.told("l10 0 14 99;l10 0 21 99;l10 0 0 99;l10 0 0 40;");
        falls(y, 2, 1, 0, 0, 0);
        time(y, 2, 68, 3);
        // Below by 2 at 1, above by 3 at 3: split at 3 first, 1 is missed still.
        EvenVoyage z = Checks.told("l10 0 12 99;l10 0 0 99;l10 0 0 27;l10 0 0 40;");
        falls(z, 3, 1, 0, 2, 0);
        time(z, 2, 39, 2);
        // By fractions: 2 2/3 at 1, 2 1/3 at 2 (EVEN 19 1/3, 38 2/3).
        EvenVoyage w = Checks.told("l10 0 22 99;l10 0 41 99;l10 0 0 58;");
        falls(w, 3, 1, 1, 0);
    }

    /** "of several the lowest". */
    private static void missedAlike() {
        // By 4 at 1, 2 and 3: split at 1 and then 3, port 2 lies at its LOW; split at 2 first, all three fall.
        EvenVoyage x = Checks.told("l10 0 14 99;l10 0 24 99;l10 0 34 99;l10 0 0 40;");
        falls(x, 3, 1, 0, 1, 0);
        time(x, 2, 24, 1);
        // By 4 at 1, 2, 3 and 4: split at 1 and then 4, those between lie at their HIGH.
        EvenVoyage y = Checks.told("l10 0 0 6;l10 0 0 16;l10 0 0 26;l10 0 0 36;l10 0 0 50;");
        falls(y, 3, 2, 0, 0, 2, 0);
        time(y, 2, 16, 1);
        time(y, 3, 26, 1);
        // On two sides.
        falls(Checks.told("l10 0 0 7;l10 0 23 99;l10 0 0 30;"), 3, 2, 1, 0);
        falls(Checks.told("l10 0 13 99;l10 0 0 17;l10 0 0 30;"), 3, 1, 2, 0);
    }

    /** "its hour there is LOW, if EVEN was below it, else HIGH". */
    private static void lowOrHigh() {
        EvenVoyage x = Checks.told("l10 0 6 8;l10 0 0 10;");
        time(x, 1, 6, 1);
        falls(x, 2, 1, 0);
        due("7: moves", x.moves(0, 1, 2, 4), 1);
        time(x, 1, 4, 1);
        falls(x, 2, 2, 0);
        // A window of one hour: which side EVEN was on tells.
        due("7: moves", x.moves(0, 1, 6, 6), 1);
        falls(x, 2, 1, 0);
        due("7: moves", x.moves(0, 1, 4, 4), 1);
        falls(x, 2, 2, 0);
    }

    /** "Each of the two falls likewise, or stays": six legs into six stretches. */
    private static void fallsOnAndOn() {
        EvenVoyage x = Checks.told("l10 0 8 8;l10 0 20 20;l10 0 28 28;l10 0 40 40;l10 0 48 48;l10 0 60 60;");
        falls(x, 6, 2, 1, 2, 1, 2, 0);
        int[] hours = {8, 20, 28, 40, 48, 60};
        for (int port = 1; port <= 6; port++) {
            time(x, port, hours[port - 1], 1);
        }
    }

    /** "some STRETCH that stays has b no more than a". */
    private static void hoursOfAStretch() {
        due("12: b = a", Checks.told("l1 0 0 0;v60;").plan(0, 0), NONE);
        due("12: b = a and 1", Checks.told("l1 0 0 1;v60;").plan(0, 0), 1);
        EvenVoyage x = Checks.told("l1 0 0 5;v60;");
        x.holds(0, 4);
        due("12: one hour is left", x.plan(0, 0), 1);
        x.holds(0, 1);
        due("12: none is left", x.plan(0, 0), NONE);
        x.holds(0, 1);
        due("12: b below a", x.plan(0, 0), NONE);
        // Between two ports: both hours 5, then 5 and 6, then 6 and 5.
        due("12: between, b = a", Checks.told("l1 0 5 5;l1 0 5 5;l1 0 9 9;v60;").plan(0, 0), NONE);
        due("12: between, one hour", Checks.told("l1 0 5 5;l1 0 6 6;l1 0 9 9;v60;").plan(0, 0) > 0 ? 1 : 0, 1);
        due("12: between, b below a", Checks.told("l1 0 6 6;l1 0 5 5;l1 0 9 9;v60;").plan(0, 0), NONE);
        // A stay takes the hour away.
        due("12: a stay of 8", Checks.told("l1 8 0 9;l1 0 0 10;v60;").plan(0, 0), 1);
        due("12: a stay of 9", Checks.told("l1 9 0 9;l1 0 0 10;v60;").plan(0, 0), 1);
        due("12: a stay of 9 and no hour", Checks.told("l1 9 0 9;l1 0 0 9;v60;").plan(0, 0), NONE);
    }

    /** "or more MILES than FASTEST times (b less a)". */
    private static void asFastAsMayBe() {
        due("12: just as fast", Checks.told("l60 0 0 3;v20;").plan(0, 0), 1);
        due("12: a mile more", Checks.told("l61 0 0 3;v20;").plan(0, 0), NONE);
        due("12: a mile less", Checks.told("l59 0 0 3;v20;").plan(0, 0), 1);
        due("12: of several legs", Checks.told("l30 0 0 9;l30 0 0 3;v20;").plan(0, 0), 1);
        due("12: of several legs, a mile more", Checks.told("l30 0 0 9;l31 0 0 3;v20;").plan(0, 0), NONE);
        EvenVoyage x = Checks.told("l60 0 0 1;v60;");
        due("12: 60 in an hour", x.plan(0, 0), 1);
        due("14: 60", x.speed(0, 0, 0), 60);
        x.fastens(0, 59);
        due("12: 59", x.plan(0, 0), NONE);
        EvenVoyage y = Checks.told("l1 0 0 1;v1;");
        due("12: 1 in an hour", y.plan(0, 0), 1);
        due("12: 2 in an hour by 1", Checks.told("l2 0 0 1;v1;").plan(0, 0), NONE);
    }

    /** "some STRETCH that stays": the first, one between, the last; all others are slow. */
    private static void anyStretch() {
        EvenVoyage first = Checks.told("l21 0 0 1;l1 0 0 9;l1 0 0 20;");
        due("12: the first", first.plan(0, 0), NONE);
        due("12: the first, wide", Checks.told("l20 0 0 1;l1 0 0 9;l1 0 0 20;").plan(0, 0), 3);
        due("12: one between", Checks.told("l1 0 5 99;l21 0 0 6;l1 0 0 20;").plan(0, 0), NONE);
        due("12: one between, wide", Checks.told("l1 0 5 99;l20 0 0 6;l1 0 0 20;").plan(0, 0), 3);
        due("12: the last", Checks.told("l1 0 0 9;l1 0 19 99;l21 0 0 20;").plan(0, 0), NONE);
        due("12: the last, wide", Checks.told("l1 0 0 9;l1 0 19 99;l20 0 0 20;").plan(0, 0), 3);
    }

    /** LOW and HIGH are below 0, where stays are longer than the hour at which a port closes. */
    private static void shiftedBelowZero() {
        EvenVoyage x = Checks.told("l1 9 0 9;l1 9 0 9;l1 9 0 9;l1 0 0 9;v60;");
        due("12: HIGH is below 0", x.plan(0, 0), NONE);
        due("18: by no FASTEST", x.needs(0), NONE);
        due("17: by no hour", x.slack(0), NONE);
        due("13: NOT", x.time(0, 4, 0), NOT);
        due("20: NONE", x.mile(0, 5), NONE);
        // OPENS 0 behind a stay: LOW is below 0 and never missed.
        falls(Checks.told("l10 9 0 99;l10 0 0 99;l10 0 0 39;"), 1, 0, 0, 0);
    }

    /** "in least terms, the lower one above 0"; at the end of a stretch "its hour". */
    private static void times() {
        EvenVoyage x = Checks.told("l2 3 0 99;l4 0 0 99;l6 0 0 13;");
        // 12 miles in 10 hours.
        time(x, 1, 5, 3);
        time(x, 2, 8, 1);
        time(x, 3, 13, 1);
        EvenVoyage far = Checks.told("l98 0 0 999;l97 0 0 999;l99 9 0 999;l99 9 0 999;l99 9 0 999;l99 0 0 998;");
        // 591 miles in 998 less 27 hours.
        time(far, 1, 98 * 971, 591);
        time(far, 2, 195 * 971 / 3, 197);
        time(far, 6, 998, 1);
        int[] parts = {-1, 2, 3, Integer.MIN_VALUE, Integer.MAX_VALUE};
        for (int part : parts) {
            due("13: part " + part, x.time(0, 1, part), NO);
            due("14: part " + part, x.speed(0, 0, part), NO);
        }
        int[] ports = {0, -1, 4, 7, Integer.MIN_VALUE, Integer.MAX_VALUE};
        for (int port : ports) {
            due("13: port " + port, x.time(0, port, 0), NO);
            due("13: port " + port, x.time(0, port, 1), NO);
        }
        int[] ships = {-1, 4, Integer.MIN_VALUE, Integer.MAX_VALUE};
        for (int i : ships) {
            due("13: ship " + i, x.time(i, 1, 0), NO);
            due("14: ship " + i, x.speed(i, 0, 0), NO);
        }
    }

    /** "SPEED of a LEG: MILES of its STRETCH by (b less a)." */
    private static void speeds() {
        EvenVoyage x = Checks.told("l10 0 0 4;l30 0 0 99;l10 0 0 24;");
        // Port 1 is closed at 4; 40 miles in 20 hours then.
        speed(x, 0, 5, 2);
        speed(x, 1, 2, 1);
        speed(x, 2, 2, 1);
        int[] legs = {-1, 3, 6, Integer.MIN_VALUE, Integer.MAX_VALUE};
        for (int k : legs) {
            due("14: leg " + k, x.speed(0, k, 0), NO);
            due("14: leg " + k, x.speed(0, k, 1), NO);
        }
        EvenVoyage slow = Checks.told("l1 0 0 999;");
        speed(slow, 0, 1, 999);
        // 20 by 8 is of the whole stretch, not of the leg.
        EvenVoyage y = Checks.told("l3 0 0 99;l17 0 0 8;");
        speed(y, 0, 5, 2);
        speed(y, 1, 5, 2);
    }

    /** "1, 2; 0: no two STRETCHES meet there. NONE: there is no PLAN. BAD". */
    private static void closed() {
        EvenVoyage x = Checks.told("l10 0 0 4;l10 0 0 99;l10 0 20 99;l10 0 0 24;");
        falls(x, 3, 2, 0, 1, 0);
        int[] ports = {0, -1, 5, 6, 7, Integer.MIN_VALUE, Integer.MAX_VALUE};
        for (int port : ports) {
            due("15: port " + port, x.closed(0, port), BAD);
        }
        int[] ships = {-1, 4, Integer.MIN_VALUE, Integer.MAX_VALUE};
        for (int i : ships) {
            due("15: ship " + i, x.closed(i, 1), BAD);
        }
        due("5: to port 1", x.sails(0), 4);
        due("15: lies there", x.closed(0, 1), BAD);
        due("15: 0", x.closed(0, 2), 0);
        due("15: 1", x.closed(0, 3), 1);
        x.fastens(0, 1);
        due("15: no PLAN", x.closed(0, 2), NONE);
        due("15: no PLAN, last", x.closed(0, 4), NONE);
        due("15: BAD ahead of NONE", x.closed(0, 1), BAD);
        due("15: BAD ahead of NONE", x.closed(0, 5), BAD);
    }

    /** "between two neighbours of 0, 10, 20, 30 as by a straight line ..; above 30 on that from 20 to 30". */
    private static void fuel() {
        // In one hour, so that MILES are the speed, by 0, 10, 30, 90: 1, 2 and 6 more for each mile an hour.
        int[] speeds = {1, 9, 10, 11, 19, 20, 21, 29, 30, 31, 59, 60};
        int[] fuels = {1, 9, 10, 12, 28, 30, 36, 84, 90, 96, 264, 270};
        for (int n = 0; n < speeds.length; n++) {
            EvenVoyage x = Checks.told("l" + speeds[n] + " 0 0 1;v60;f0 10 30 90;");
            due("16: at speed " + speeds[n], x.cost(0, 0), speeds[n] * fuels[n]);
        }
        // At a speed near 0 it is near the first number: 99 miles at 99/999, 5 and a little.
        due("16: slow", Checks.told("l99 0 0 999;f5 5 5 5;").cost(0, 0), 495);
        due("16: slow and dear", Checks.told("l1 0 0 999;f0 333 666 999;").cost(0, 0), 0);
        due("16: nothing", Checks.told("l99 0 0 2;v60;f0 0 0 0;").cost(0, 0), 0);
        // 49 1/2 an hour: 99 times 999 times 2 19/20.
        due("16: dearest", Checks.told("l99 0 0 2;v60;f0 0 0 999;").cost(0, 0), 291757);
        due("16: 999 at any speed", Checks.told("l99 0 0 2;v60;f999 999 999 999;").cost(0, 0), 98901);
    }

    /** "COST of a LEG: its MILES times FUEL at its SPEED, cut to a whole number"; "COSTS .. together". */
    private static void costsAreCut() {
        // 19 miles at speed 1: 20 9/10 each.
        EvenVoyage x = Checks.told("l19 0 0 99;l19 0 0 38;");
        due("16: cut", x.cost(0, 0), 20);
        due("16: cut", x.cost(0, 1), 20);
        due("12: each is cut ahead of the sum", x.plan(0, 1), 40);
        due("5: sails", x.sails(0), 19);
        due("10: BURNT", x.ship(0, 4), 20);
        due("12: what is AHEAD alone", x.plan(0, 1), 20);
        due("5: sails", x.sails(0), 38);
        due("10: BURNT", x.ship(0, 4), 40);
        due("16: whole stays whole", Checks.told("l20 0 0 20;").cost(0, 0), 22);
    }

    /** "what = 0 .. (1) .. BAD." */
    private static void whatIsAsked() {
        EvenVoyage x = Checks.told("l10 0 0 99;l10 0 0 10;");
        int[] nothing = {-1, 2, 3, Integer.MIN_VALUE, Integer.MAX_VALUE};
        for (int what : nothing) {
            due("12: plan(0, " + what + ")", x.plan(0, what), BAD);
            due("12: BAD ahead of NONE, plan(1, " + what + ")", x.plan(1, what), BAD);
        }
        int[] ships = {-1, 4, Integer.MIN_VALUE, Integer.MAX_VALUE};
        for (int i : ships) {
            due("12: plan(" + i + ", 0)", x.plan(i, 0), BAD);
            due("12: plan(" + i + ", 1)", x.plan(i, 1), BAD);
            due("16: cost(" + i + ", 0)", x.cost(i, 0), BAD);
        }
        int[] legs = {-1, 2, 6, Integer.MIN_VALUE, Integer.MAX_VALUE};
        for (int k : legs) {
            due("16: cost(0, " + k + ")", x.cost(0, k), BAD);
        }
        due("16: no LEGS", x.cost(1, 0), BAD);
    }

    /** "NONE: there is no PLAN", "NOT: there is no PLAN", and BAD, NO ahead of them. */
    private static void noPlan() {
        EvenVoyage x = Checks.told("l21 0 0 1;l1 0 0 9;");
        due("12: plan(0, 0)", x.plan(0, 0), NONE);
        due("12: plan(0, 1)", x.plan(0, 1), NONE);
        for (int part = 0; part < 2; part++) {
            due("13: NOT", x.time(0, 1, part), NOT);
            due("13: NOT, last", x.time(0, 2, part), NOT);
            due("13: NO ahead", x.time(0, 3, part), NO);
            due("13: NO ahead", x.time(0, 0, part), NO);
            due("14: NOT", x.speed(0, 0, part), NOT);
            due("14: NOT, last", x.speed(0, 1, part), NOT);
            due("14: NO ahead", x.speed(0, 2, part), NO);
            due("14: NO ahead", x.speed(0, -1, part), NO);
        }
        due("13: NO ahead, part", x.time(0, 1, 2), NO);
        due("14: NO ahead, part", x.speed(0, 0, 2), NO);
        due("15: NONE", x.closed(0, 1), NONE);
        due("15: BAD ahead", x.closed(0, 0), BAD);
        due("16: NONE", x.cost(0, 0), NONE);
        due("16: NONE, last", x.cost(0, 1), NONE);
        due("16: BAD ahead", x.cost(0, 2), BAD);
        due("16: BAD ahead", x.cost(0, -1), BAD);
        due("13: no LEGS is NO", x.time(1, 1, 0), NO);
        due("14: no LEGS is NO", x.speed(1, 0, 0), NO);
    }
}
