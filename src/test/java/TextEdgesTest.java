/** Every sentence on THE TEXT that names an edge: promises 2 to 4, and its rows under "Terms". */
public final class TextEdgesTest {
    private static final int BAD = -1, FULL = -3;
    private static final Checks checks = new Checks();

    public static void main(String[] args) {
        lettersThatMayCome();
        lengthOfTheText();
        fullTextIsTold();
        clearing();
        noItems();
        blanks();
        otherSignsAreNoBlanks();
        ordersOfItems();
        numbersOfALeg();
        numberOfFastest();
        numbersOfATable();
        seventhLeg();
        toldAgain();
        figures();
        otherLetters();
        endsTooEarly();
        wrongTokens();
        firstFaultOfSeveral();
        faultChangesNothing();
        badAheadOfFault();
        toldAnew();
        checks.end();
    }

    private static void due(String call, long got, long want) {
        checks.due(call, got, want);
    }

    private static void items(String text, int want) {
        due("4: tells of '" + text + "'", Checks.tell(new EvenVoyage(), 0, text), want);
    }

    private static void fault(String text, int place) {
        due("4: tells of '" + text + "'", Checks.tell(new EvenVoyage(), 0, text), -10 - place);
    }

    /** "A letter (0 .. 255)": BAD beyond. */
    private static void lettersThatMayCome() {
        EvenVoyage x = new EvenVoyage();
        for (int letter = 0; letter <= 255; letter++) {
            if (letter == 128) {
                x.clear();
            }
            due("2: type(" + letter + ")", x.type(letter), letter % 128 + 1);
        }
        int[] wrong = {-1, 256, 257, -256, 65536 + 'l', Integer.MIN_VALUE, Integer.MAX_VALUE};
        for (int letter : wrong) {
            due("2: type(" + letter + ")", x.type(letter), BAD);
        }
        due("2: refused letters do not come", x.count(2), 128);
    }

    /** "150 letters at most"; "BAD; FULL: 150". */
    private static void lengthOfTheText() {
        EvenVoyage x = new EvenVoyage();
        for (int n = 1; n <= 150; n++) {
            due("2: letter " + n, x.type('l'), n);
        }
        due("2: letter 151", x.type('l'), FULL);
        due("2: a blank is a letter too", x.type(' '), FULL);
        due("2: BAD ahead of FULL, below", x.type(-1), BAD);
        due("2: BAD ahead of FULL, above", x.type(256), BAD);
        due("27: still 150", x.count(2), 150);
        due("3: clear of a full text", x.clear(), 150);
        due("2: there is room again", x.type('l'), 1);
    }

    /** A text of just 150 letters can be told; what FULL refused is no part of it. */
    private static void fullTextIsTold() {
        String six = "l99 9 999 999;".repeat(6) + "v60;f999 999 999 999;";
        EvenVoyage x = new EvenVoyage();
        due("2: 150 letters", Checks.type(x, " ".repeat(150 - six.length()) + six), 150);
        due("2: beyond", x.type('x'), FULL);
        due("4: eight items", x.tells(3), 8);
        due("4: six legs", x.ship(3, 0), 6);
        due("4: the sixth", x.leg(3, 5, 3), 999);
        due("4: the table's last", x.ship(3, 8), 999);
        due("4: the text is empty then", x.count(2), 0);
        due("2: and takes letters again", x.type(' '), 1);
        fault(" ".repeat(149) + "v", 150);
        fault(" ".repeat(149) + ";", 149);
        fault(" ".repeat(148) + "v9", 150);
        fault(" ".repeat(146) + "v100", 147);
        items(" ".repeat(147) + "v9;", 1);
        items(" ".repeat(150), 0);
    }

    /** "THE TEXT is empty: how many letters it had." */
    private static void clearing() {
        EvenVoyage x = new EvenVoyage();
        due("3: nothing was told", x.clear(), 0);
        x.type('v');
        due("3: one letter", x.clear(), 1);
        due("3: none is left", x.clear(), 0);
        due("27: none is left", x.count(2), 0);
        Checks.type(x, "9;");
        due("4: what was cleared is not told", x.tells(0), -10);
    }

    /** "ITEMS (none, too)". */
    private static void noItems() {
        items("", 0);
        items(" ", 0);
        items("       ", 0);
        EvenVoyage x = Checks.told("l9 1 2 3;v5;f0 0 0 7;");
        x.holds(0, 9);
        due("4: no items", x.tells(0), 0);
        int[] first = {0, 20, 0, 0, 0, 1, 2, 4, 8};
        for (int what = 0; what < 9; what++) {
            due("4: as at first, ship(0, " + what + ")", x.ship(0, what), first[what]);
        }
        due("4: it is DONE", x.count(3), 3);
        due("9: and UNDONE", x.undo(), 2);
        due("9: has its leg again", x.ship(0, 0), 1);
    }

    /** "blanks (32), any number, ahead of, between, behind TOKENS (needed only between two NUMBERS)". */
    private static void blanks() {
        String[] tokens = {"l", "12", "3", "45", "678", ";", "v", "9", ";", "f", "1", "2", "3", "40", ";"};
        for (int gap = 0; gap <= 6; gap++) {
            StringBuilder t = new StringBuilder(" ".repeat(gap));
            for (int n = 0; n < tokens.length; n++) {
                boolean numbers = n > 0 && isNumber(tokens[n - 1]) && isNumber(tokens[n]);
                t.append(" ".repeat(n == 0 ? 0 : numbers ? Math.max(1, gap) : gap)).append(tokens[n]);
            }
            t.append(" ".repeat(gap));
            EvenVoyage x = new EvenVoyage();
            due("4: blanks by " + gap, Checks.tell(x, 0, t.toString()), 3);
            due("4: MILES, blanks by " + gap, x.leg(0, 0, 0), 12);
            due("4: CLOSES, blanks by " + gap, x.leg(0, 0, 3), 678);
            due("4: FASTEST, blanks by " + gap, x.ship(0, 1), 9);
            due("4: TABLE, blanks by " + gap, x.ship(0, 8), 40);
        }
        // Without its blank a pair of numbers is one: then one is lacking.
        fault("l12 3 45;", 8);
        fault("v6 0;", 3);
        fault("l1 2 3 4 5;", 9);
    }

    private static boolean isNumber(String token) {
        return Character.isDigit(token.charAt(0));
    }

    private static void otherSignsAreNoBlanks() {
        char[] signs = {0, 9, 10, 11, 12, 13, 31, 33, 133, 160, 255};
        for (char sign : signs) {
            fault(String.valueOf(sign), 0);
            fault("v" + sign + "9;", 1);
            fault("v9;" + sign, 3);
        }
    }

    private static void ordersOfItems() {
        String[] texts = {"l1 0 0 9;v9;f0 0 0 1;", "l1 0 0 9;f0 0 0 1;v9;", "v9;l1 0 0 9;f0 0 0 1;",
            "v9;f0 0 0 1;l1 0 0 9;", "f0 0 0 1;v9;l1 0 0 9;", "f0 0 0 1;l1 0 0 9;v9;"};
        for (String text : texts) {
            items(text, 3);
        }
        EvenVoyage x = Checks.told("l1 0 0 9;v9;l2 0 0 9;f0 0 0 1;l3 0 0 9;");
        for (int k = 0; k < 3; k++) {
            due("4: the next LEG", x.leg(0, k, 0), k + 1);
        }
    }

    /** "MILES (1 to 99)", "STAY (hours, 0 to 9)", "hours 0 to 999, CLOSES no less than OPENS". */
    private static void numbersOfALeg() {
        int[][] right = {{1, 0, 0, 0}, {99, 0, 0, 0}, {1, 9, 0, 0}, {1, 0, 999, 999}, {1, 0, 0, 999},
            {1, 0, 500, 500}, {1, 0, 500, 501}, {1, 0, 998, 999}};
        for (int[] r : right) {
            EvenVoyage x = new EvenVoyage();
            due("4: a leg", Checks.tell(x, 0, "l" + r[0] + " " + r[1] + " " + r[2] + " " + r[3] + ";"), 1);
            for (int what = 0; what < 4; what++) {
                due("4: its number " + what, x.leg(0, 0, what), r[what]);
            }
        }
        fault("l0 0 0 0;", 1);
        fault("l100 0 0 0;", 1);
        fault("l999 0 0 0;", 1);
        fault("l1 10 0 0;", 3);
        fault("l1 999 0 0;", 3);
        fault("l1 0 1000 1000;", 5);
        fault("l1 0 0 1000;", 7);
        fault("l1 0 1 0;", 7);
        fault("l1 0 500 499;", 9);
        fault("l1 0 999 998;", 9);
        // OPENS of one leg does not bind CLOSES of the next.
        items("l1 0 500 500;l1 0 0 0;", 2);
    }

    /** "FASTEST (miles an hour, 1 to 60)". */
    private static void numberOfFastest() {
        for (int v = 1; v <= 60; v++) {
            EvenVoyage x = new EvenVoyage();
            due("4: v" + v, Checks.tell(x, 0, "v" + v + ";"), 1);
            due("4: is " + v, x.ship(0, 1), v);
        }
        fault("v0;", 1);
        fault("v61;", 1);
        fault("v100;", 1);
        fault("v999;", 1);
        fault("v1000;", 1);
    }

    /** "four numbers (0 to 999) .. no less than the one ahead, and the differences .. do not fall". */
    private static void numbersOfATable() {
        String[] right = {"0 0 0 0", "999 999 999 999", "0 0 0 999", "0 0 499 999", "0 333 666 999", "0 1 2 3",
            "0 1 3 5", "0 1 2 4", "998 998 998 999", "5 5 6 7"};
        for (String r : right) {
            items("f" + r + ";", 1);
        }
        fault("f1000 1000 1000 1000;", 1);
        fault("f0 1000 1000 1000;", 3);
        fault("f0 0 1000 1000;", 5);
        fault("f0 0 0 1000;", 7);
        fault("f5 4 9 30;", 3);
        fault("f5 5 4 9;", 5);
        fault("f5 5 5 4;", 7);
        fault("f0 2 3 9;", 5);
        fault("f0 2 2 9;", 5);
        fault("f0 1 3 4;", 7);
        fault("f0 1 3 3;", 7);
        fault("f0 0 500 999;", 9);
        // "beyond what it may be by what is told ahead of it": a number by which nothing may follow
        // stands itself; what follows can't.
        fault("f0 999 999 999;", 7);
        fault("f0 999;", 6);
        fault("f0 999", 6);
        fault("f0 500 999 999;", 7);
        fault("f0 499 998 999;", 11);
        fault("f0 500;", 6);
        fault("f0 500", 6);
        // Nothing is told of it by a table that was at first.
        items("f9 9 9 9;", 1);
    }

    /** "LEGS 0, 1, .. (6 at most)"; "a seventh l". */
    private static void seventhLeg() {
        String six = "l1 0 0 9;".repeat(6);
        items(six, 6);
        items(six + "v9;f0 0 0 0;", 8);
        fault(six + "l1 0 0 9;", 54);
        fault(six + "l", 54);
        fault(six + "  l0", 56);
        fault("v9;" + six + "l1 0 0 9;", 57);
        fault(six + "v9;l1 0 0 9;", 57);
        // Six for each ship, and for each text anew.
        EvenVoyage x = Checks.told(six, six, six, six);
        due("27: 24 legs", x.count(0), 24);
    }

    /** "v F (FASTEST; once at most)", "f A B C D (the TABLE; once at most)"; "v or f again". */
    private static void toldAgain() {
        fault("v5;v5;", 3);
        fault("v5;v", 3);
        fault("v5; l1 0 0 9; v6;", 14);
        fault("f0 0 0 0;f0 0 0 0;", 9);
        fault("f0 0 0 0;v5;f", 12);
        EvenVoyage x = Checks.told("v5;f0 0 0 9;");
        due("4: in another text they may be again", Checks.tell(x, 0, "v6;f0 0 0 8;"), 2);
        Checks.type(x, "v5;v5;");
        due("4: a fault", x.tells(0), -13);
        due("4: again", x.tells(0), -13);
        due("4: once, behind a fault", Checks.tell(x, 0, "v7;f0 0 0 7;"), 2);
        due("4: is", x.ship(0, 1), 7);
    }

    /** "a NUMBER above 999 or with a 0 ahead of others". */
    private static void figures() {
        items("l1 0 0 0;", 1);
        String[] wrong = {"00", "000", "01", "09", "0999", "01000", "1000", "1001", "9999", "10000", "32769", "65537",
            "2147483648", "4294967296", "4294967301", "18446744073709551616", "18446744073709551621",
            "9".repeat(140), "0".repeat(140), "1" + "0".repeat(100)};
        for (String w : wrong) {
            fault("l1 0 0 " + w, 7);
            fault("v" + w + ";", 1);
        }
        for (String w : wrong) {
            fault("  " + w, 2);
            fault("v5 " + w, 3);
        }
    }

    /** "of any other letter .. that TOKEN's". */
    private static void otherLetters() {
        for (int letter = 0; letter < 256; letter++) {
            if ("lvf".indexOf(letter) >= 0 || letter == ' ') {
                continue;
            }
            fault("v5;" + (char) letter, 3);
        }
        for (int letter = 0; letter < 256; letter++) {
            if (letter == ' ' || letter >= '0' && letter <= '9') {
                continue;
            }
            fault("v " + (char) letter + "5;", 2);
        }
        for (int letter = 0; letter < 256; letter++) {
            if (letter == ' ' || letter == ';' || letter >= '0' && letter <= '9') {
                continue;
            }
            fault("v5" + (char) letter + ";", 2);
        }
        fault("l-1 0 0 0;", 1);
        fault("l+1 0 0 0;", 1);
        fault("l1.5 0 0 0;", 2);
    }

    /** "the text's length, if it ends too early". */
    private static void endsTooEarly() {
        String whole = " l12 3 4 678 ; v 9 ;  f1 2 3 4;";
        for (int length = 0; length <= whole.length(); length++) {
            String part = whole.substring(0, length);
            int ended = part.length() - part.replace(";", "").length();
            boolean open = part.substring(part.lastIndexOf(';') + 1).trim().length() > 0;
            if (open) {
                fault(part, length);
            } else {
                items(part, ended);
            }
        }
        // Ahead of that: what is cut short may be a NUMBER that can't stand.
        fault("l12 3 45 6", 9);
        fault("l", 1);
        fault("l    ", 5);
    }

    /** "the first TOKEN that can't stand there": each kind of token at each place. */
    private static void wrongTokens() {
        String[] right = {"l", "9", "1", "2", "3", ";", "v", "5", ";", "f", "1", "2", "3", "4", ";"};
        String[] others = {"l", "v", "f", ";", "7", "x"};
        for (int n = 0; n < right.length; n++) {
            for (String other : others) {
                boolean begins = n == 0 || right[n - 1].equals(";");
                boolean mayStand = begins ? "lvf".contains(other) : isNumber(right[n]) ? other.equals("7") : other.equals(";");
                if (mayStand) {
                    continue;
                }
                StringBuilder t = new StringBuilder();
                for (int k = 0; k < n; k++) {
                    t.append(right[k]).append(' ');
                }
                fault(t + other, t.length());
                fault(t + other + " ; v 1 ;", t.length());
            }
        }
        fault("v9;;", 3);
        fault(";v9;", 0);
    }

    private static void firstFaultOfSeveral() {
        fault("l0 x", 1);
        fault("x l0", 0);
        fault("; 01", 0);
        fault("l1 0 5 4 x", 7);
        fault("l1 0 5 x 4", 7);
        fault("v61 1000", 1);
        fault("v1000 61", 1);
        fault("v5;v01;x", 3);
        fault("f5 4 3 2;", 3);
        fault("l100 10 1000 01;", 1);
        fault("l1 10 1000 01;", 3);
        fault("l1 0 1000 01;", 5);
    }

    /** "-10 less FAULT: nothing changes (THE TEXT stays, too)." */
    private static void faultChangesNothing() {
        EvenVoyage x = Checks.told("l9 1 2 30;v5;");
        x.holds(0, 2);
        Checks.type(x, "l7 0 0");
        due("4: too early", x.tells(0), -16);
        due("4: the text stays", x.count(2), 6);
        due("4: the ship stays", x.leg(0, 0, 0), 9);
        due("4: leaves as it did", x.ship(0, 3), 2);
        due("4: nothing is DONE", x.count(3), 2);
        due("2: it goes on", Checks.type(x, " 8"), 8);
        due("4: too early still", x.tells(0), -18);
        due("2: to its end", x.type(';'), 9);
        due("4: is told", x.tells(0), 1);
        due("4: MILES", x.leg(0, 0, 0), 7);
        due("4: CLOSES", x.leg(0, 0, 3), 8);
        due("4: FASTEST as at first", x.ship(0, 1), 20);
        due("4: the text is empty", x.count(2), 0);
    }

    private static void badAheadOfFault() {
        int[] none = {-1, 4, 5, 256, Integer.MIN_VALUE, Integer.MAX_VALUE};
        EvenVoyage x = new EvenVoyage();
        Checks.type(x, "v0;");
        for (int i : none) {
            due("4: BAD ahead of FAULT, ship " + i, x.tells(i), BAD);
        }
        due("4: the text stays", x.count(2), 3);
        due("4: the fault", x.tells(0), -11);
        due("4: of ship 3 as well", x.tells(3), -11);
        x.clear();
        Checks.type(x, "v7;");
        for (int i : none) {
            due("4: BAD, ship " + i, x.tells(i), BAD);
        }
        due("4: the text stays", x.count(2), 3);
        due("27: nothing is DONE", x.count(3), 0);
        due("4: is told", x.tells(3), 1);
        due("4: to ship 3", x.ship(3, 1), 7);
        for (int i = 0; i < 3; i++) {
            due("4: not to ship " + i, x.ship(i, 1), 20);
        }
    }

    /** "A SHIP told is anew: what its TEXT does not tell is as at first"; AT PORT 0, LEAVES at 0, BURNT 0. */
    private static void toldAnew() {
        String[] texts = {"l5 1 2 30;", "v7;", "f0 0 0 3;"};
        int[][] want = {{1, 20, 0, 0, 0, 1, 2, 4, 8}, {0, 7, 0, 0, 0, 1, 2, 4, 8}, {0, 20, 0, 0, 0, 0, 0, 0, 3}};
        for (int n = 0; n < texts.length; n++) {
            EvenVoyage x = Checks.told("l10 0 0 9;l20 0 0 30;v50;f3 6 9 99;");
            due("5: under way", x.sails(0), 9);
            due("6: held up", x.holds(0, 3), 12);
            due("4: anew by '" + texts[n] + "'", Checks.tell(x, 0, texts[n]), 1);
            for (int what = 0; what < 9; what++) {
                due("4: ship(0, " + what + ")", x.ship(0, what), want[n][what]);
            }
            due("11: the old second leg is none", x.leg(0, 1, 0), BAD);
        }
    }
}
