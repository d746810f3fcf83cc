import java.util.ArrayDeque;
import java.util.ArrayList;
import java.util.Arrays;
import java.util.HashMap;
import java.util.List;
import java.util.Map;
import java.util.TreeSet;

/**
 * The document written a second time, slowly and in its own order: fractions, recursion and copies,
 * nothing shared with the class under test.
 */
final class Model {
    static final int BAD = -1, STATE = -2, FULL = -3, NONE = -9, NO = -1000000, NOT = -2000000;

    /** A fraction in least terms, the lower number above 0. */
    record Fraction(long upper, long lower) implements Comparable<Fraction> {
        static Fraction of(long upper, long lower) {
            if (lower < 0) {
                return of(-upper, -lower);
            }
            long a = Math.abs(upper);
            long b = lower;
            while (b != 0) {
                long rest = a % b;
                a = b;
                b = rest;
            }
            return new Fraction(upper / a, lower / a);
        }

        static Fraction of(long whole) {
            return of(whole, 1);
        }

        Fraction plus(Fraction o) {
            return of(upper * o.lower + o.upper * lower, lower * o.lower);
        }

        Fraction minus(Fraction o) {
            return of(upper * o.lower - o.upper * lower, lower * o.lower);
        }

        Fraction times(Fraction o) {
            return of(upper * o.upper, lower * o.lower);
        }

        Fraction by(Fraction o) {
            return of(upper * o.lower, lower * o.upper);
        }

        long cut() {
            return Math.floorDiv(upper, lower);
        }

        long up() {
            return -Math.floorDiv(-upper, lower);
        }

        @Override
        public int compareTo(Fraction o) {
            return Long.compare(upper * o.lower, o.upper * lower);
        }
    }

    static final class Leg {
        int miles, stay, opens, closes;

        Leg(int miles, int stay, int opens, int closes) {
            this.miles = miles;
            this.stay = stay;
            this.opens = opens;
            this.closes = closes;
        }
    }

    static final class Ship {
        List<Leg> legs = new ArrayList<>();
        int fastest = 20, at = 0, leaves = 0, burnt = 0;
        int[] table = {1, 2, 4, 8};

        Ship copy() {
            Ship c = new Ship();
            for (Leg l : legs) {
                c.legs.add(new Leg(l.miles, l.stay, l.opens, l.closes));
            }
            c.fastest = fastest;
            c.at = at;
            c.leaves = leaves;
            c.burnt = burnt;
            c.table = table.clone();
            return c;
        }

        boolean ahead(int port) {
            return port > at && port <= legs.size();
        }

        int wait(int port) {
            int sum = 0;
            for (int p = at + 1; p < port; p++) {
                sum += legs.get(p - 1).stay;
            }
            return sum;
        }

        int low(int port) {
            return legs.get(port - 1).opens - wait(port);
        }

        int high(int port) {
            return legs.get(port - 1).closes - wait(port);
        }

        int miles(int from, int to) {
            int sum = 0;
            for (int k = from; k < to; k++) {
                sum += legs.get(k).miles;
            }
            return sum;
        }
    }

    record Stretch(int i, int a, int j, int b) {
        Fraction even(Ship s, int k) {
            return Fraction.of(a).plus(
                Fraction.of(b - a).times(Fraction.of(s.miles(i, k))).by(Fraction.of(s.miles(i, j))));
        }

        boolean holds(int leg) {
            return leg >= i && leg < j;
        }
    }

    static final class Plan {
        final Ship ship;
        final List<Stretch> stretches = new ArrayList<>();
        final Map<Integer, Integer> closed = new HashMap<>();

        Plan(Ship ship) {
            this.ship = ship;
        }

        void fall(Stretch t) {
            int worst = -1;
            int side = 0;
            Fraction most = Fraction.of(0);
            for (int k = t.i() + 1; k < t.j(); k++) {
                Fraction below = Fraction.of(ship.low(k)).minus(t.even(ship, k));
                Fraction above = t.even(ship, k).minus(Fraction.of(ship.high(k)));
                if (below.compareTo(most) > 0) {
                    most = below;
                    worst = k;
                    side = 1;
                } else if (above.compareTo(most) > 0) {
                    most = above;
                    worst = k;
                    side = 2;
                }
            }
            if (worst < 0) {
                stretches.add(t);
                return;
            }
            int hour = side == 1 ? ship.low(worst) : ship.high(worst);
            closed.put(worst, side);
            fall(new Stretch(t.i(), t.a(), worst, hour));
            fall(new Stretch(worst, hour, t.j(), t.b()));
        }

        Stretch of(int leg) {
            for (Stretch t : stretches) {
                if (t.holds(leg)) {
                    return t;
                }
            }
            throw new IllegalStateException("no stretch holds leg " + leg);
        }

        Fraction time(int port) {
            return of(port - 1).even(ship, port).plus(Fraction.of(ship.wait(port)));
        }

        Fraction speed(int leg) {
            Stretch t = of(leg);
            return Fraction.of(ship.miles(t.i(), t.j()), t.b() - t.a());
        }

        int cost(int leg) {
            Fraction v = speed(leg);
            int n = v.compareTo(Fraction.of(10)) <= 0 ? 0 : v.compareTo(Fraction.of(20)) <= 0 ? 1 : 2;
            Fraction part = v.minus(Fraction.of(10 * n)).by(Fraction.of(10));
            Fraction fuel = Fraction.of(ship.table[n])
                .plus(part.times(Fraction.of(ship.table[n + 1] - ship.table[n])));
            return (int) fuel.times(Fraction.of(ship.legs.get(leg).miles)).cut();
        }

        int costs() {
            int sum = 0;
            for (int k = ship.at; k < ship.legs.size(); k++) {
                sum += cost(k);
            }
            return sum;
        }

        int mile(int h) {
            Fraction hour = Fraction.of(h);
            if (h <= ship.leaves) {
                return ship.miles(0, ship.at);
            }
            for (int k = ship.at; k < ship.legs.size(); k++) {
                Fraction t = k == ship.at ? Fraction.of(ship.leaves)
                    : time(k).plus(Fraction.of(ship.legs.get(k - 1).stay));
                Fraction u = time(k + 1);
                if (hour.compareTo(t) < 0) {
                    return ship.miles(0, k);
                }
                if (hour.compareTo(u) <= 0) {
                    Fraction part = hour.minus(t).by(u.minus(t));
                    return ship.miles(0, k) + (int) part.times(Fraction.of(ship.legs.get(k).miles)).cut();
                }
            }
            return ship.miles(0, ship.legs.size());
        }
    }

    /** The plan, null if there is none. */
    static Plan planOf(Ship s) {
        if (s.at >= s.legs.size()) {
            return null;
        }
        Plan p = new Plan(s);
        p.fall(new Stretch(s.at, s.leaves, s.legs.size(), s.high(s.legs.size())));
        for (Stretch t : p.stretches) {
            if (t.b() <= t.a() || s.miles(t.i(), t.j()) > s.fastest * (t.b() - t.a())) {
                return null;
            }
        }
        return p;
    }

    private Ship[] ships = {new Ship(), new Ship(), new Ship(), new Ship()};
    private final StringBuilder text = new StringBuilder();
    private final ArrayDeque<Ship[]> past = new ArrayDeque<>();
    private final Ship[][] images = new Ship[2][];
    private final List<int[]> seen = new ArrayList<>();

    private static boolean noShip(int i) {
        return i < 0 || i > 3;
    }

    private static Ship[] copy(Ship[] from) {
        Ship[] to = new Ship[4];
        for (int i = 0; i < 4; i++) {
            to[i] = from[i].copy();
        }
        return to;
    }

    private void done() {
        past.addLast(copy(ships));
        if (past.size() > 6) {
            past.removeFirst();
        }
    }

    private int legs() {
        int sum = 0;
        for (Ship s : ships) {
            sum += s.legs.size();
        }
        return sum;
    }

    int type(int letter) {
        if (letter < 0 || letter > 255) {
            return BAD;
        }
        if (text.length() == 150) {
            return FULL;
        }
        text.append((char) letter);
        return text.length();
    }

    int clear() {
        int had = text.length();
        text.setLength(0);
        return had;
    }

    int tells(int i) {
        if (noShip(i)) {
            return BAD;
        }
        Ship s = new Ship();
        int answer = read(s);
        if (answer >= 0) {
            done();
            ships[i] = s;
            text.setLength(0);
        }
        return answer;
    }

    /** Tokens first, each with its place; then the grammar over them. */
    private int read(Ship s) {
        List<String> tokens = new ArrayList<>();
        List<Integer> places = new ArrayList<>();
        String t = text.toString();
        int p = 0;
        while (p < t.length()) {
            int begin = p;
            p++;
            if (t.charAt(begin) == ' ') {
                continue;
            }
            if (figure(t.charAt(begin))) {
                while (p < t.length() && figure(t.charAt(p))) {
                    p++;
                }
            }
            tokens.add(t.substring(begin, p));
            places.add(begin);
        }
        tokens.add("end");
        places.add(t.length());
        int n = 0;
        int items = 0;
        boolean v = false;
        boolean f = false;
        while (!tokens.get(n).equals("end")) {
            String kind = tokens.get(n);
            boolean may = kind.equals("l") && s.legs.size() < 6 || kind.equals("v") && !v || kind.equals("f") && !f;
            if (!may) {
                return -10 - places.get(n);
            }
            n++;
            int[] given = new int[kind.equals("v") ? 1 : 4];
            for (int g = 0; g < given.length; g++, n++) {
                int number = number(tokens.get(n));
                if (number < 0 || !fits(kind, given, g, number)) {
                    return -10 - places.get(n);
                }
                given[g] = number;
            }
            if (!tokens.get(n).equals(";")) {
                return -10 - places.get(n);
            }
            n++;
            items++;
            if (kind.equals("l")) {
                s.legs.add(new Leg(given[0], given[1], given[2], given[3]));
            } else if (kind.equals("v")) {
                s.fastest = given[0];
                v = true;
            } else {
                s.table = given;
                f = true;
            }
        }
        return items;
    }

    private static boolean figure(char c) {
        return c >= '0' && c <= '9';
    }

    private static int number(String token) {
        return token.matches("0|[1-9][0-9]{0,2}") ? Integer.parseInt(token) : -1;
    }

    private static boolean fits(String kind, int[] given, int g, int number) {
        if (kind.equals("v")) {
            return number >= 1 && number <= 60;
        }
        if (kind.equals("l")) {
            return g == 0 ? number >= 1 && number <= 99 : g == 1 ? number <= 9 : g == 2 || number >= given[2];
        }
        if (g > 0 && number < given[g - 1]) {
            return false;
        }
        return g < 2 || number - given[g - 1] >= given[g - 1] - given[g - 2];
    }

    int sails(int i) {
        if (noShip(i)) {
            return BAD;
        }
        Plan p = planOf(ships[i]);
        if (p == null) {
            return STATE;
        }
        done();
        Ship s = ships[i];
        Plan fresh = planOf(s);
        int leaves = (int) fresh.time(s.at + 1).up() + s.legs.get(s.at).stay;
        int burnt = fresh.cost(s.at);
        s.at++;
        s.leaves = leaves;
        s.burnt += burnt;
        return leaves;
    }

    int holds(int i, int h) {
        if (noShip(i) || h < 1 || h > 99) {
            return BAD;
        }
        if (ships[i].leaves + h > 9999) {
            return FULL;
        }
        done();
        ships[i].leaves += h;
        return ships[i].leaves;
    }

    int moves(int i, int port, int opens, int closes) {
        if (noShip(i) || !ships[i].ahead(port) || opens < 0 || opens > 999 || closes < opens || closes > 999) {
            return BAD;
        }
        Leg l = ships[i].legs.get(port - 1);
        if (l.opens == opens && l.closes == closes) {
            return STATE;
        }
        done();
        l.opens = opens;
        l.closes = closes;
        return 1;
    }

    int fastens(int i, int fastest) {
        if (noShip(i) || fastest < 1 || fastest > 60) {
            return BAD;
        }
        int was = ships[i].fastest;
        if (was == fastest) {
            return STATE;
        }
        done();
        ships[i].fastest = fastest;
        return was;
    }

    int undo() {
        if (past.isEmpty()) {
            return STATE;
        }
        ships = past.removeLast();
        return past.size();
    }

    int ship(int i, int what) {
        if (noShip(i) || what < 0 || what > 8) {
            return BAD;
        }
        Ship s = ships[i];
        int[] all = {s.legs.size(), s.fastest, s.at, s.leaves, s.burnt};
        return what < 5 ? all[what] : s.table[what - 5];
    }

    int leg(int i, int k, int what) {
        if (noShip(i) || k < 0 || k >= ships[i].legs.size() || what < 0 || what > 3) {
            return BAD;
        }
        Leg l = ships[i].legs.get(k);
        return new int[] {l.miles, l.stay, l.opens, l.closes}[what];
    }

    int plan(int i, int what) {
        if (noShip(i) || what < 0 || what > 1) {
            return BAD;
        }
        Plan p = planOf(ships[i]);
        return p == null ? NONE : what == 0 ? p.stretches.size() : p.costs();
    }

    int time(int i, int port, int part) {
        if (noShip(i) || part < 0 || part > 1 || !ships[i].ahead(port)) {
            return NO;
        }
        Plan p = planOf(ships[i]);
        return p == null ? NOT : (int) (part == 0 ? p.time(port).upper() : p.time(port).lower());
    }

    int speed(int i, int k, int part) {
        if (noShip(i) || part < 0 || part > 1 || k < ships[i].at || k >= ships[i].legs.size()) {
            return NO;
        }
        Plan p = planOf(ships[i]);
        return p == null ? NOT : (int) (part == 0 ? p.speed(k).upper() : p.speed(k).lower());
    }

    int closed(int i, int port) {
        if (noShip(i) || !ships[i].ahead(port)) {
            return BAD;
        }
        Plan p = planOf(ships[i]);
        return p == null ? NONE : p.closed.getOrDefault(port, 0);
    }

    int cost(int i, int k) {
        if (noShip(i) || k < ships[i].at || k >= ships[i].legs.size()) {
            return BAD;
        }
        Plan p = planOf(ships[i]);
        return p == null ? NONE : p.cost(k);
    }

    int slack(int i) {
        if (noShip(i)) {
            return BAD;
        }
        int best = NONE;
        for (int h = 0; h <= 99; h++) {
            Ship s = ships[i].copy();
            s.leaves += h;
            if (planOf(s) != null) {
                best = h;
            }
        }
        return best;
    }

    int needs(int i) {
        if (noShip(i)) {
            return BAD;
        }
        for (int v = 1; v <= 999; v++) {
            Ship s = ships[i].copy();
            s.fastest = v;
            if (planOf(s) != null) {
                return v;
            }
        }
        return NONE;
    }

    int eased(int i) {
        if (noShip(i)) {
            return BAD;
        }
        Plan now = planOf(ships[i]);
        int least = now == null ? Integer.MAX_VALUE : now.costs();
        int best = NONE;
        for (int port = ships[i].at + 1; port <= ships[i].legs.size(); port++) {
            for (int side = 0; side < 2; side++) {
                Ship s = ships[i].copy();
                Leg l = s.legs.get(port - 1);
                l.opens -= side == 0 ? 1 : 0;
                l.closes += side;
                Plan p = planOf(s);
                if (p != null && p.costs() < least) {
                    least = p.costs();
                    best = 2 * port + side;
                }
            }
        }
        return best;
    }

    int mile(int i, int h) {
        if (noShip(i) || h < 0 || h > 999) {
            return BAD;
        }
        Plan p = planOf(ships[i]);
        return p == null ? NONE : p.mile(h);
    }

    int sees(int h, int m) {
        if (h < 0 || h > 999 || m < 0 || m > 999) {
            return BAD;
        }
        if (seen.size() == 6) {
            return FULL;
        }
        seen.add(new int[] {h, m});
        return seen.size();
    }

    int forget() {
        int was = seen.size();
        seen.clear();
        return was;
    }

    int which() {
        int bits = 0;
        for (int i = 0; i < 4; i++) {
            boolean all = true;
            for (int[] hm : seen) {
                all &= mile(i, hm[0]) == hm[1];
            }
            bits += all ? 1 << i : 0;
        }
        return bits;
    }

    int look() {
        int bits = which();
        if (Integer.bitCount(bits) < 2) {
            return NONE;
        }
        int best = NONE;
        int least = 9;
        for (int h = 0; h < 100; h++) {
            int[] at = new int[4];
            int n = 0;
            for (int i = 0; i < 4; i++) {
                if ((bits & 1 << i) != 0) {
                    at[n++] = mile(i, h);
                }
            }
            int most = 0;
            TreeSet<Integer> kinds = new TreeSet<>();
            for (int k = 0; k < n; k++) {
                kinds.add(at[k]);
            }
            for (int kind : kinds) {
                most = Math.max(most, (int) Arrays.stream(at, 0, n).filter(m -> m == kind).count());
            }
            if (most < least) {
                least = most;
                best = h;
            }
        }
        return best;
    }

    int keep(int image) {
        if (image < 0 || image > 1) {
            return BAD;
        }
        images[image] = copy(ships);
        return legs();
    }

    int back(int image) {
        if (image < 0 || image > 1) {
            return BAD;
        }
        if (images[image] == null) {
            return STATE;
        }
        ships = copy(images[image]);
        past.clear();
        return legs();
    }

    int count(int what) {
        return what == 0 ? legs() : what == 1 ? seen.size() : what == 2 ? text.length() : what == 3 ? past.size() : BAD;
    }
}
