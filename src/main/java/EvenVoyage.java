import java.util.Arrays;

/**
 * Ships that burn least by going as evenly as their harbours let them.
 *
 * All rows are made in the constructors and used again, so that no call makes an object.
 */
public final class EvenVoyage {
    public static final int BAD = -1, STATE = -2, FULL = -3, NONE = -9;
    public static final int NO = -1000000, NOT = -2000000;

    private static final int SHIPS = 4;
    private static final int IMAGES = 2;
    private static final int MOST_SEEN = 6;
    private static final int LAST_HOUR = 999;
    private static final int LATEST_LEAVE = 9999;
    private static final int LONGEST_HOLD = 99;
    private static final int LAST_LOOK = 99;

    private final Fleet fleet = new Fleet();
    private final Past past = new Past();
    private final Fleet[] images = new Fleet[IMAGES];
    private final boolean[] kept = new boolean[IMAGES];
    private final Text text = new Text();
    private final Ship trialShip = new Ship();
    private final Plan trialPlan = new Plan();
    private final Plan[] plans = new Plan[SHIPS];
    private final int[] seenHours = new int[MOST_SEEN];
    private final int[] seenMiles = new int[MOST_SEEN];
    private int seen = 0;
    private final int[] places = new int[SHIPS];

    public EvenVoyage() {
        for (int k = 0; k < IMAGES; k++) {
            images[k] = new Fleet();
        }
        for (int i = 0; i < SHIPS; i++) {
            plans[i] = new Plan();
        }
    }

    // ---- what is told

    public int type(int letter) {
        if (letter < 0 || letter > 255) {
            return BAD;
        }
        return text.takesLetter(letter) ? text.length() : FULL;
    }

    public int clear() {
        int had = text.length();
        text.becomeEmpty();
        return had;
    }

    public int tells(int i) {
        if (isNoShip(i)) {
            return BAD;
        }
        int items = text.tellShip(trialShip);
        if (items < 0) {
            return items;
        }
        past.remember(fleet);
        fleet.ships[i].becomeLike(trialShip);
        text.becomeEmpty();
        return items;
    }

    // ---- what is done

    public int sails(int i) {
        if (isNoShip(i)) {
            return BAD;
        }
        Ship own = fleet.ships[i];
        Plan drawn = drawnPlan(i);
        if (!drawn.stands()) {
            return STATE;
        }
        int begin = own.trait(Ship.AT);
        int end = begin + 1;
        int leaves = drawn.hourRoundedUp(end) + own.ofLeg(begin, Ship.STAY);
        int burnt = own.trait(Ship.BURNT) + drawn.burntOnLeg(begin);
        past.remember(fleet);
        own.setTrait(Ship.AT, end);
        own.setTrait(Ship.LEAVES, leaves);
        own.setTrait(Ship.BURNT, burnt);
        return leaves;
    }

    public int holds(int i, int h) {
        if (isNoShip(i) || h < 1 || h > LONGEST_HOLD) {
            return BAD;
        }
        Ship own = fleet.ships[i];
        int leaves = own.trait(Ship.LEAVES) + h;
        if (leaves > LATEST_LEAVE) {
            return FULL;
        }
        past.remember(fleet);
        own.setTrait(Ship.LEAVES, leaves);
        return leaves;
    }

    public int moves(int i, int port, int opens, int closes) {
        if (isNoShip(i) || !fleet.ships[i].isPortAhead(port)) {
            return BAD;
        }
        if (opens < 0 || closes < opens || closes > LAST_HOUR) {
            return BAD;
        }
        Ship own = fleet.ships[i];
        int k = port - 1;
        if (own.ofLeg(k, Ship.OPENS) == opens && own.ofLeg(k, Ship.CLOSES) == closes) {
            return STATE;
        }
        past.remember(fleet);
        own.setOfLeg(k, Ship.OPENS, opens);
        own.setOfLeg(k, Ship.CLOSES, closes);
        return 1;
    }

    public int fastens(int i, int fastest) {
        if (isNoShip(i) || fastest < 1 || fastest > Ship.TOP_SPEED) {
            return BAD;
        }
        Ship own = fleet.ships[i];
        int was = own.trait(Ship.FASTEST);
        if (was == fastest) {
            return STATE;
        }
        past.remember(fleet);
        own.setTrait(Ship.FASTEST, fastest);
        return was;
    }

    public int undo() {
        if (past.known() == 0) {
            return STATE;
        }
        past.restore(fleet);
        return past.known();
    }

    // ---- as it stands

    public int ship(int i, int what) {
        if (isNoShip(i) || what < 0 || what >= Ship.TRAITS) {
            return BAD;
        }
        return fleet.ships[i].trait(what);
    }

    public int leg(int i, int k, int what) {
        if (isNoShip(i) || what < 0 || what >= Ship.LEG_PARTS) {
            return BAD;
        }
        Ship own = fleet.ships[i];
        if (k < 0 || k >= own.trait(Ship.LEGS)) {
            return BAD;
        }
        return own.ofLeg(k, what);
    }

    // ---- plans

    public int plan(int i, int what) {
        if (isNoShip(i) || what < 0 || what > 1) {
            return BAD;
        }
        Plan drawn = drawnPlan(i);
        if (!drawn.stands()) {
            return NONE;
        }
        return what == 0 ? drawn.stretchCount() : drawn.burntInAll();
    }

    public int time(int i, int port, int part) {
        if (isNoShip(i) || part < 0 || part > 1 || !fleet.ships[i].isPortAhead(port)) {
            return NO;
        }
        Plan drawn = drawnPlan(i);
        if (!drawn.stands()) {
            return NOT;
        }
        return partOf(drawn.hourUpper(port), drawn.hourLower(port), part);
    }

    public int speed(int i, int k, int part) {
        if (isNoShip(i) || part < 0 || part > 1 || !fleet.ships[i].isLegAhead(k)) {
            return NO;
        }
        Plan drawn = drawnPlan(i);
        if (!drawn.stands()) {
            return NOT;
        }
        return partOf(drawn.milesAround(k), drawn.hoursAround(k), part);
    }

    public int closed(int i, int port) {
        if (isNoShip(i) || !fleet.ships[i].isPortAhead(port)) {
            return BAD;
        }
        Plan drawn = drawnPlan(i);
        return drawn.stands() ? drawn.meetingAt(port) : NONE;
    }

    public int cost(int i, int k) {
        if (isNoShip(i) || !fleet.ships[i].isLegAhead(k)) {
            return BAD;
        }
        Plan drawn = drawnPlan(i);
        return drawn.stands() ? drawn.burntOnLeg(k) : NONE;
    }

    // ---- what would be

    public int slack(int i) {
        if (isNoShip(i)) {
            return BAD;
        }
        trialShip.becomeLike(fleet.ships[i]);
        int leaves = trialShip.trait(Ship.LEAVES);
        // From the greatest down: that a plan at h means one at every lesser h is told nowhere.
        for (int h = LONGEST_HOLD; h >= 0; h--) {
            trialShip.setTrait(Ship.LEAVES, leaves + h);
            trialPlan.draw(trialShip);
            if (trialPlan.stands()) {
                return h;
            }
        }
        return NONE;
    }

    public int needs(int i) {
        if (isNoShip(i)) {
            return BAD;
        }
        int least = drawnPlan(i).neededSpeed();
        return least == 0 ? NONE : least;
    }

    public int eased(int i) {
        if (isNoShip(i)) {
            return BAD;
        }
        Ship own = fleet.ships[i];
        Plan now = drawnPlan(i);
        boolean any = !now.stands();
        int least = any ? 0 : now.burntInAll();
        int best = NONE;
        for (int port = own.trait(Ship.AT) + 1; port <= own.trait(Ship.LEGS); port++) {
            for (int side = 0; side <= 1; side++) {
                drawEased(own, port, side);
                if (!trialPlan.stands()) {
                    continue;
                }
                int burnt = trialPlan.burntInAll();
                if (any || burnt < least) {
                    any = false;
                    least = burnt;
                    best = 2 * port + side;
                }
            }
        }
        return best;
    }

    // ---- where it is

    public int mile(int i, int h) {
        if (isNoShip(i) || h < 0 || h > LAST_HOUR) {
            return BAD;
        }
        return drawnPlan(i).mileAt(h);
    }

    public int sees(int h, int m) {
        if (h < 0 || h > LAST_HOUR || m < 0 || m > 999) {
            return BAD;
        }
        if (seen >= MOST_SEEN) {
            return FULL;
        }
        seenHours[seen] = h;
        seenMiles[seen] = m;
        seen++;
        return seen;
    }

    public int forget() {
        int was = seen;
        seen = 0;
        return was;
    }

    public int which() {
        drawAllPlans();
        return suspects();
    }

    public int look() {
        drawAllPlans();
        int bits = suspects();
        if (Integer.bitCount(bits) < 2) {
            return NONE;
        }
        int best = NONE;
        int least = SHIPS + 1;
        for (int h = 0; h <= LAST_LOOK; h++) {
            int most = mostAlike(bits, h);
            if (most < least) {
                least = most;
                best = h;
            }
        }
        return best;
    }

    // ---- images

    public int keep(int image) {
        if (image < 0 || image >= IMAGES) {
            return BAD;
        }
        images[image].becomeLike(fleet);
        kept[image] = true;
        return fleet.legsInAll();
    }

    public int back(int image) {
        if (image < 0 || image >= IMAGES) {
            return BAD;
        }
        if (!kept[image]) {
            return STATE;
        }
        fleet.becomeLike(images[image]);
        past.lose();
        return fleet.legsInAll();
    }

    public int count(int what) {
        switch (what) {
            case 0:
                return fleet.legsInAll();
            case 1:
                return seen;
            case 2:
                return text.length();
            case 3:
                return past.known();
            default:
                return BAD;
        }
    }

    // ---- what the calls share

    private static boolean isNoShip(int i) {
        return i < 0 || i >= SHIPS;
    }

    private Plan drawnPlan(int i) {
        Plan drawn = plans[i];
        drawn.draw(fleet.ships[i]);
        return drawn;
    }

    private void drawAllPlans() {
        for (int i = 0; i < SHIPS; i++) {
            plans[i].draw(fleet.ships[i]);
        }
    }

    /** The trial plan, as if a port opened an hour earlier (side 0) or closed an hour later (1). */
    private void drawEased(Ship own, int port, int side) {
        trialShip.becomeLike(own);
        int k = port - 1;
        if (side == 0) {
            trialShip.setOfLeg(k, Ship.OPENS, own.ofLeg(k, Ship.OPENS) - 1);
        } else {
            trialShip.setOfLeg(k, Ship.CLOSES, own.ofLeg(k, Ship.CLOSES) + 1);
        }
        trialPlan.draw(trialShip);
    }

    /** The ships that agree with all that was seen, as bits, by the plans drawn last. */
    private int suspects() {
        int bits = 0;
        for (int i = 0; i < SHIPS; i++) {
            if (agrees(plans[i])) {
                bits |= 1 << i;
            }
        }
        return bits;
    }

    private boolean agrees(Plan drawn) {
        for (int s = 0; s < seen; s++) {
            if (drawn.mileAt(seenHours[s]) != seenMiles[s]) {
                return false;
            }
        }
        return true;
    }

    /** The greatest number of ships among the bits that are at one and the same mile. */
    private int mostAlike(int bits, int h) {
        int most = 0;
        for (int i = 0; i < SHIPS; i++) {
            if ((bits >> i & 1) == 0) {
                // No mile, and no NONE either: alike to nothing that is asked for.
                places[i] = NOT;
                continue;
            }
            places[i] = plans[i].mileAt(h);
            int alike = 1;
            for (int j = 0; j < i; j++) {
                if (places[j] == places[i]) {
                    alike++;
                }
            }
            most = Math.max(most, alike);
        }
        return most;
    }

    /** The upper (part 0) or the lower number of a fraction, in least terms. */
    private static int partOf(int upper, int lower, int part) {
        int measure = commonMeasure(upper, lower);
        int number = part == 0 ? upper : lower;
        return measure <= 0 ? number : number / measure;
    }

    private static int commonMeasure(int one, int other) {
        int greater = Math.abs(one);
        int smaller = Math.abs(other);
        // Euclid's steps are at most some five for each figure of the smaller number.
        for (int step = 0; step < 64 && smaller > 0; step++) {
            int rest = greater % smaller;
            greater = smaller;
            smaller = rest;
        }
        return greater;
    }

    /** What is known of one ship, in the order in which ship() and leg() number it. */
    private static final class Ship {
        static final int LEGS = 0, FASTEST = 1, AT = 2, LEAVES = 3, BURNT = 4, TABLE = 5;
        static final int TRAITS = 9;
        static final int MILES = 0, STAY = 1, OPENS = 2, CLOSES = 3;
        static final int LEG_PARTS = 4;
        static final int MOST_LEGS = 6;
        static final int TOP_SPEED = 60;
        private static final int[] AT_FIRST = {0, 20, 0, 0, 0, 1, 2, 4, 8};

        private final int[] traits = new int[TRAITS];
        private final int[] legParts = new int[MOST_LEGS * LEG_PARTS];

        Ship() {
            becomeNew();
        }

        void becomeNew() {
            System.arraycopy(AT_FIRST, 0, traits, 0, TRAITS);
            Arrays.fill(legParts, 0);
        }

        void becomeLike(Ship other) {
            System.arraycopy(other.traits, 0, traits, 0, TRAITS);
            System.arraycopy(other.legParts, 0, legParts, 0, MOST_LEGS * LEG_PARTS);
        }

        int trait(int what) {
            return what >= 0 && what < TRAITS ? traits[what] : 0;
        }

        void setTrait(int what, int value) {
            if (what >= 0 && what < TRAITS) {
                traits[what] = value;
            }
        }

        int ofLeg(int k, int what) {
            int place = placeOf(k, what);
            return place < 0 ? 0 : legParts[place];
        }

        void setOfLeg(int k, int what, int value) {
            int place = placeOf(k, what);
            if (place >= 0) {
                legParts[place] = value;
            }
        }

        boolean isPortAhead(int port) {
            return port > traits[AT] && port <= traits[LEGS];
        }

        boolean isLegAhead(int k) {
            return k >= traits[AT] && k < traits[LEGS];
        }

        /** Where a leg's number lies in the row, below 0 if there is no such number. */
        private static int placeOf(int k, int what) {
            if (k < 0 || k >= MOST_LEGS || what < 0 || what >= LEG_PARTS) {
                return -1;
            }
            return k * LEG_PARTS + what;
        }
    }

    /** All ships at once: what is undone and what an image keeps. */
    private static final class Fleet {
        private final Ship[] ships = new Ship[SHIPS];

        Fleet() {
            for (int i = 0; i < SHIPS; i++) {
                ships[i] = new Ship();
            }
        }

        void becomeLike(Fleet other) {
            for (int i = 0; i < SHIPS; i++) {
                ships[i].becomeLike(other.ships[i]);
            }
        }

        int legsInAll() {
            int legs = 0;
            for (int i = 0; i < SHIPS; i++) {
                legs += ships[i].trait(Ship.LEGS);
            }
            return legs;
        }
    }

    /** The fleet as it was ahead of the latest changes, in a ring that forgets the oldest. */
    private static final class Past {
        private static final int DEPTH = 6;
        private final Fleet[] fleets = new Fleet[DEPTH];
        private int next = 0;
        private int knownCount = 0;

        Past() {
            for (int k = 0; k < DEPTH; k++) {
                fleets[k] = new Fleet();
            }
        }

        int known() {
            return knownCount;
        }

        void remember(Fleet now) {
            fleets[next].becomeLike(now);
            next = next + 1 < DEPTH ? next + 1 : 0;
            knownCount = Math.min(DEPTH, knownCount + 1);
        }

        void restore(Fleet now) {
            if (knownCount == 0) {
                return;
            }
            next = next > 0 ? next - 1 : DEPTH - 1;
            knownCount--;
            now.becomeLike(fleets[next]);
        }

        void lose() {
            knownCount = 0;
        }
    }

    /**
     * The plan of one ship. Hours of stretches are whole numbers (LEAVES, LOW or HIGH); what lies
     * between is kept as a number of hours times the miles of its stretch, so that all is exact.
     */
    private static final class Plan {
        private static final int PORTS = Ship.MOST_LEGS + 1;
        /** No two stretches meet there; they meet at LOW, at HIGH: as closed() answers them. */
        private static final int BETWEEN = 0, AT_LOW = 1, AT_HIGH = 2;

        private int first = 0;
        private int last = 0;
        private final int[] milesUpTo = new int[PORTS];
        private final int[] waits = new int[PORTS];
        private final int[] lows = new int[PORTS];
        private final int[] highs = new int[PORTS];
        private final int[] hours = new int[PORTS];
        private final int[] meetings = new int[PORTS];
        private final int[] stretchBegin = new int[Ship.MOST_LEGS];
        private final int[] stretchEnd = new int[Ship.MOST_LEGS];
        private final int[] table = new int[4];
        private int stretches = 0;
        private int needed = 0;
        private int fastest = 0;

        void draw(Ship ship) {
            first = Math.min(Math.max(ship.trait(Ship.AT), 0), Ship.MOST_LEGS);
            last = Math.min(Math.max(ship.trait(Ship.LEGS), first), Ship.MOST_LEGS);
            fastest = ship.trait(Ship.FASTEST);
            for (int n = 0; n < 4; n++) {
                table[n] = ship.trait(Ship.TABLE + n);
            }
            layPorts(ship);
            hours[first] = ship.trait(Ship.LEAVES);
            if (last > first) {
                hours[last] = highs[last];
            }
            splitStretches();
            measureStretches();
        }

        boolean stands() {
            return needed > 0 && needed <= fastest;
        }

        /** The least FASTEST by which there is a plan, 0 if there is none by any. */
        int neededSpeed() {
            return needed;
        }

        int stretchCount() {
            return stretches;
        }

        int meetingAt(int port) {
            if (port <= first || port >= last) {
                return 0;
            }
            return meetings[port];
        }

        /** The miles of the stretch in which a leg lies. */
        int milesAround(int k) {
            if (isNoLeg(k)) {
                return 0;
            }
            return milesUpTo[stretchEnd[k]] - milesUpTo[stretchBegin[k]];
        }

        /** The hours of the stretch in which a leg lies. */
        int hoursAround(int k) {
            if (isNoLeg(k)) {
                return 0;
            }
            return hours[stretchEnd[k]] - hours[stretchBegin[k]];
        }

        /** TIME at a port ahead, times the miles of the stretch by which one comes in. */
        int hourUpper(int port) {
            int k = port - 1;
            if (isNoLeg(k)) {
                return 0;
            }
            return evenHour(stretchBegin[k], stretchEnd[k], port) + waits[port] * milesAround(k);
        }

        int hourLower(int port) {
            return milesAround(port - 1);
        }

        int hourRoundedUp(int port) {
            int lower = hourLower(port);
            return lower <= 0 ? 0 : -Math.floorDiv(-hourUpper(port), lower);
        }

        /** COST of a leg. Its speed is miles by span, both of its stretch. */
        int burntOnLeg(int k) {
            long span = hoursAround(k);
            if (span <= 0) {
                return 0;
            }
            long miles = milesAround(k);
            int step = (int) Math.min(2, miles / (10 * span));
            if (step < 0) {
                return 0;
            }
            long base = table[step];
            long rise = table[step + 1] - base;
            long above = miles - 10 * step * span;
            long fuel = base * 10 * span + rise * above;
            return (int) (milesOfLeg(k) * fuel / (10 * span));
        }

        int burntInAll() {
            int burnt = 0;
            for (int k = first; k < last; k++) {
                burnt += burntOnLeg(k);
            }
            return burnt;
        }

        int mileAt(int hour) {
            if (!stands()) {
                return NONE;
            }
            int mile = milesUpTo[first];
            for (int k = first; k < last; k++) {
                mile += sailedOnLeg(k, hour);
            }
            return mile;
        }

        private boolean isNoLeg(int k) {
            return k < first || k >= last;
        }

        private int milesOfLeg(int k) {
            return isNoLeg(k) ? 0 : milesUpTo[k + 1] - milesUpTo[k];
        }

        /**
         * How much of a leg lies behind at an hour. Miles by hours are those of the whole stretch,
         * so the leg's own (h less t) by (u less t) needs no fraction of its own.
         */
        private int sailedOnLeg(int k, int hour) {
            int span = hoursAround(k);
            if (span <= 0) {
                return 0;
            }
            int begin = stretchBegin[k];
            int sailing = hour - waits[k + 1] - hours[begin];
            int sinceBegin = milesAround(k) * sailing - span * (milesUpTo[k] - milesUpTo[begin]);
            return sinceBegin <= 0 ? 0 : Math.min(milesOfLeg(k), sinceBegin / span);
        }

        private void layPorts(Ship ship) {
            milesUpTo[0] = 0;
            for (int port = 1; port <= last; port++) {
                milesUpTo[port] = milesUpTo[port - 1] + ship.ofLeg(port - 1, Ship.MILES);
            }
            int wait = 0;
            for (int port = first + 1; port <= last; port++) {
                waits[port] = wait;
                lows[port] = ship.ofLeg(port - 1, Ship.OPENS) - wait;
                highs[port] = ship.ofLeg(port - 1, Ship.CLOSES) - wait;
                meetings[port] = BETWEEN;
                wait += ship.ofLeg(port - 1, Ship.STAY);
            }
        }

        /** Each round splits the stretch that begins at a port, or goes on to where it ends. */
        private void splitStretches() {
            int begin = first;
            for (int round = 0; round < 2 * PORTS && begin < last; round++) {
                int end = nextEnd(begin);
                int port = mostMissed(begin, end);
                if (port == begin) {
                    begin = end;
                } else if (missAt(begin, end, port) < 0) {
                    hours[port] = lows[port];
                    meetings[port] = AT_LOW;
                } else {
                    hours[port] = highs[port];
                    meetings[port] = AT_HIGH;
                }
            }
        }

        private int nextEnd(int begin) {
            for (int port = begin + 1; port < last; port++) {
                if (meetings[port] != BETWEEN) {
                    return port;
                }
            }
            return last;
        }

        /** The port between at which the stretch misses most, its own begin if it misses nowhere. */
        private int mostMissed(int begin, int end) {
            int worst = begin;
            int most = 0;
            for (int port = begin + 1; port < end; port++) {
                int miss = Math.abs(missAt(begin, end, port));
                if (miss > most) {
                    most = miss;
                    worst = port;
                }
            }
            return worst;
        }

        /** How far EVEN lies beyond HIGH (above 0) or ahead of LOW (below 0), times the stretch's miles. */
        private int missAt(int begin, int end, int port) {
            int miles = milesUpTo[end] - milesUpTo[begin];
            int even = evenHour(begin, end, port);
            if (even < lows[port] * miles) {
                return even - lows[port] * miles;
            }
            return Math.max(0, even - highs[port] * miles);
        }

        /** EVEN, times the miles of its stretch. */
        private int evenHour(int begin, int end, int port) {
            int miles = milesUpTo[end] - milesUpTo[begin];
            int gone = milesUpTo[port] - milesUpTo[begin];
            return hours[begin] * miles + (hours[end] - hours[begin]) * gone;
        }

        private void measureStretches() {
            stretches = 0;
            needed = 0;
            boolean rises = true;
            int begin = first;
            for (int round = 0; round < PORTS && begin < last; round++) {
                int end = nextEnd(begin);
                for (int k = begin; k < end; k++) {
                    stretchBegin[k] = begin;
                    stretchEnd[k] = end;
                }
                int span = hours[end] - hours[begin];
                if (span > 0) {
                    int miles = milesUpTo[end] - milesUpTo[begin];
                    needed = Math.max(needed, (miles + span - 1) / span);
                } else {
                    rises = false;
                }
                stretches++;
                begin = end;
            }
            if (!rises) {
                needed = 0;
            }
        }
    }

    /** THE TEXT, and how it tells a ship, token by token. */
    private static final class Text {
        private static final int MOST_LETTERS = 150;
        private static final int GREATEST = 999;
        /** Stands for every number that no place takes. */
        private static final int BEYOND = GREATEST + 1;
        private static final int NO_ITEM = 0;
        private static final int FIRST_FAULT = -10;
        private static final int[] LEAST_OF_LEG = {1, 0, 0, 0};
        private static final int[] MOST_OF_LEG = {99, 9, 999, 999};

        private final int[] letters = new int[MOST_LETTERS];
        private int size = 0;
        private int item = NO_ITEM;
        private int given = 0;
        private final int[] values = new int[4];
        private int items = 0;
        private boolean fastestTold = false;
        private boolean tableTold = false;

        int length() {
            return size;
        }

        boolean takesLetter(int letter) {
            if (size >= MOST_LETTERS) {
                return false;
            }
            letters[size] = letter;
            size++;
            return true;
        }

        void becomeEmpty() {
            size = 0;
        }

        /** The ship becomes as told: how many items, or -10 less FAULT. */
        int tellShip(Ship ship) {
            ship.becomeNew();
            item = NO_ITEM;
            items = 0;
            fastestTold = false;
            tableTold = false;
            int place = 0;
            for (int round = 0; round < MOST_LETTERS && place < size; round++) {
                if (letters[place] == ' ') {
                    place++;
                    continue;
                }
                if (!takesToken(ship, place)) {
                    return FIRST_FAULT - place;
                }
                place = tokenEnd(place);
            }
            return item == NO_ITEM ? items : FIRST_FAULT - size;
        }

        private boolean takesToken(Ship ship, int place) {
            int letter = letters[place];
            if (item == NO_ITEM) {
                return beginsItem(ship, letter);
            }
            if (given < numbersOfItem()) {
                return isFigure(letter) && takesNumber(numberAt(place));
            }
            if (letter != ';') {
                return false;
            }
            endItem(ship);
            return true;
        }

        private boolean beginsItem(Ship ship, int letter) {
            boolean may = letter == 'l' && ship.trait(Ship.LEGS) < Ship.MOST_LEGS
                || letter == 'v' && !fastestTold
                || letter == 'f' && !tableTold;
            if (may) {
                item = letter;
                given = 0;
            }
            return may;
        }

        private int numbersOfItem() {
            return item == 'v' ? 1 : 4;
        }

        private boolean takesNumber(int number) {
            if (given < 0 || given >= values.length || number < least() || number > greatest()) {
                return false;
            }
            values[given] = number;
            given++;
            return true;
        }

        /** The least that the next number may be, by those ahead of it in its item. */
        private int least() {
            if (item == 'v') {
                return 1;
            }
            if (item == 'l') {
                return given == 3 ? values[2] : LEAST_OF_LEG[given];
            }
            if (given == 0) {
                return 0;
            }
            int ahead = values[given - 1];
            return given == 1 ? ahead : ahead + ahead - values[given - 2];
        }

        private int greatest() {
            if (item == 'v') {
                return Ship.TOP_SPEED;
            }
            return item == 'l' ? MOST_OF_LEG[given] : GREATEST;
        }

        private void endItem(Ship ship) {
            if (item == 'l') {
                int k = ship.trait(Ship.LEGS);
                for (int what = 0; what < Ship.LEG_PARTS; what++) {
                    ship.setOfLeg(k, what, values[what]);
                }
                ship.setTrait(Ship.LEGS, k + 1);
            } else if (item == 'v') {
                ship.setTrait(Ship.FASTEST, values[0]);
                fastestTold = true;
            } else {
                for (int n = 0; n < 4; n++) {
                    ship.setTrait(Ship.TABLE + n, values[n]);
                }
                tableTold = true;
            }
            item = NO_ITEM;
            items++;
        }

        /** The place behind a token: a row of figures is one, any other letter is one by itself. */
        private int tokenEnd(int place) {
            if (!isFigure(letters[place])) {
                return place + 1;
            }
            for (int end = place; end < size; end++) {
                if (!isFigure(letters[end])) {
                    return end;
                }
            }
            return size;
        }

        /** The number told by a row of figures, BEYOND if it is too great or has a 0 ahead. */
        private int numberAt(int place) {
            int end = tokenEnd(place);
            if (letters[place] == '0' && end > place + 1) {
                return BEYOND;
            }
            int number = 0;
            for (int p = place; p < end; p++) {
                number = Math.min(BEYOND, number * 10 + letters[p] - '0');
            }
            return number;
        }

        private static boolean isFigure(int letter) {
            return letter >= '0' && letter <= '9';
        }
    }
}
