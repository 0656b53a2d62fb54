/**
 * A desk that gives each aircraft a place on the ground.
 *
 * <p>The words in capitals and the numbered promises are those of the document, DOC.md.
 */
public final class ApronDesk {
    public static final int NONE = -1;

    private static final int CONE_ALONE = -2;

    private static final int LAST_MINUTE = 2_879;
    private static final int DAYS_END = 2_880;
    private static final int NIGHT_FROM = 1_320;
    private static final int NIGHT_END = 1_560;

    private static final int MOST_STANDS = 24;
    private static final int MOST_PAIRS = 40;
    private static final int MOST_CONES = 20;
    private static final int MOST_VISITS = 40;
    private static final int MOST_STAYS = 8;
    private static final int MOST_TRIES = 5_000;
    private static final int MOST_TOWTIME = 60;
    private static final int FIRST_TOWTIME = 5;

    private static final int LEAST_WIDTH = 10;
    private static final int MOST_WIDTH = 200;

    private static final int ROW = 5;
    private static final int KIND_AT = 0;
    private static final int WING_AT = 1;
    private static final int IN_AT = 2;
    private static final int OUT_AT = 3;
    private static final int NEED_AT = 4;

    private static final int PLAIN = 1;
    private static final int BRIDGE = 2;
    private static final int TWIN = 3;
    private static final int REMOTE = 4;
    private static final int HANGAR = 5;

    private static final int PLANE = 1;
    private static final int WIDE = 2;
    private static final int FREIGHT = 3;
    private static final int SLEEPER = 4;

    private static final int NEEDS_NONE = 0;
    private static final int NEEDS_BRIDGE = 1;
    private static final int NEEDS_HANGAR = 2;

    private static final int[] FREIGHT_ORDER = {REMOTE, PLAIN, HANGAR};
    private static final int[] COMMON_ORDER = {BRIDGE, TWIN, PLAIN, REMOTE, HANGAR};

    private static final int NOTHING = 0;
    private static final int BY_SIZE = 1;
    private static final int BY_NEED = 2;
    private static final int BY_NEIGHBOUR = 3;
    private static final int BY_CONE = 4;
    private static final int BY_TAKER = 5;

    private static final int FINE = 0;
    private static final int NO_STAND = 1;
    private static final int NO_VISIT = 2;
    private static final int BAD_NUMBER = 3;
    private static final int TOO_MANY = 4;
    private static final int IS_UNKNOWN = 5;
    private static final int PUT_OR_NOT = 6;
    private static final int HAS_BEGUN = 7;
    private static final int HINDERED = 8;
    private static final int NOT_LATE = 9;
    private static final int IS_SPENT = 10;
    private static final int NO_WHOLE = 11;

    private final Ground apron;
    private final Visits visits;
    private final Judge judge;
    private final Searcher searcher;
    private final Delay delay;
    private final Line line;
    private int towMinutes;
    private int lastStatus;
    private int lastReason;
    private int lastAgainst;

    public ApronDesk() {
        apron = new Ground();
        visits = new Visits();
        judge = new Judge(apron, visits);
        searcher = new Searcher(apron, visits, judge);
        delay = new Delay(visits, judge);
        line = new Line();
        towMinutes = FIRST_TOWTIME;
        lastStatus = FINE;
        lastReason = NOTHING;
        lastAgainst = NONE;
    }

    public int status() {
        return lastStatus;
    }

    public int reason(int what) {
        if (what == 0) {
            return lastReason;
        }
        return what == 1 ? lastAgainst : NONE;
    }

    public int stand(int kind, int size) {
        if (!isWithin(kind, PLAIN, HANGAR) || !isWithin(size, LEAST_WIDTH, MOST_WIDTH)) {
            return refuse(BAD_NUMBER);
        }
        if (apron.stands >= MOST_STANDS) {
            return refuse(TOO_MANY);
        }
        return grant(apron.addStand(kind, size));
    }

    public int ground(int stand, int what) {
        if (!apron.hasStand(stand)) {
            return refuse(NO_STAND);
        }
        if (what == 0) {
            return grant(apron.kinds[stand]);
        }
        return what == 1 ? grant(apron.sizes[stand]) : refuse(BAD_NUMBER);
    }

    public int near(int a, int b, int limitA, int limitB) {
        if (!apron.hasStand(a) || !apron.hasStand(b)) {
            return refuse(NO_STAND);
        }
        if (a == b || !isWithin(limitA, 0, MOST_WIDTH) || !isWithin(limitB, 0, MOST_WIDTH)) {
            return refuse(BAD_NUMBER);
        }
        if (apron.pairs >= MOST_PAIRS) {
            return refuse(TOO_MANY);
        }
        return grant(apron.addPair(a, b, limitA, limitB));
    }

    public int cone(int stand, int from, int to) {
        if (!apron.hasStand(stand)) {
            return refuse(NO_STAND);
        }
        if (!isSpan(from, to)) {
            return refuse(BAD_NUMBER);
        }
        if (apron.cones >= MOST_CONES) {
            return refuse(TOO_MANY);
        }
        return grant(apron.addCone(stand, from, to));
    }

    public boolean towtime(int minutes) {
        if (!isWithin(minutes, 1, MOST_TOWTIME)) {
            return deny(BAD_NUMBER);
        }
        towMinutes = minutes;
        return allow();
    }

    public int visit(int kind, int wing, int in, int out, int need) {
        if (!isWithin(kind, PLANE, SLEEPER) || !isWithin(wing, LEAST_WIDTH, MOST_WIDTH)) {
            return refuse(BAD_NUMBER);
        }
        if (!isSpan(in, out) || !isWithin(need, NEEDS_NONE, NEEDS_HANGAR)) {
            return refuse(BAD_NUMBER);
        }
        if (visits.size >= MOST_VISITS) {
            return refuse(TOO_MANY);
        }
        return grant(visits.add(kind, wing, in, out, need));
    }

    public boolean tear(int visit, int numbers) {
        if (!visits.has(visit)) {
            return deny(NO_VISIT);
        }
        if (!isWithin(numbers, 0, visits.lengths[visit])) {
            return deny(BAD_NUMBER);
        }
        if (visits.isPut(visit)) {
            return deny(PUT_OR_NOT);
        }
        visits.lengths[visit] = numbers;
        return allow();
    }

    public int told(int visit, int k) {
        if (!visits.has(visit)) {
            return refuse(NO_VISIT);
        }
        if (k < 0 || k >= visits.lengths[visit]) {
            return refuse(BAD_NUMBER);
        }
        return grant(visits.rows[visit * ROW + k]);
    }

    public boolean put(int visit, int stand) {
        int fault = faultOfPutting(visit, stand);
        if (fault != FINE) {
            return deny(fault);
        }
        int from = visits.inOf(visit);
        if (isHindered(visit, stand, from, visits.outOf(visit))) {
            return deny(HINDERED);
        }
        visits.place(visit, stand, from);
        return allow();
    }

    public int why(int visit, int stand) {
        int fault = faultOfLooking(visit, stand);
        if (fault != FINE) {
            return refuse(fault);
        }
        if (isHindered(visit, stand, visits.inOf(visit), visits.outOf(visit))) {
            return grant(lastReason);
        }
        return grant(NOTHING);
    }

    public boolean off(int visit) {
        if (!visits.has(visit)) {
            return deny(NO_VISIT);
        }
        if (!visits.isPut(visit)) {
            return deny(PUT_OR_NOT);
        }
        if (visits.hasBegun(visit)) {
            return deny(HAS_BEGUN);
        }
        visits.takeOff(visit);
        return allow();
    }

    public boolean tow(int visit, int minute, int stand) {
        int fault = faultOfTowing(visit, minute, stand);
        if (fault != FINE) {
            return deny(fault);
        }
        if (isHindered(visit, stand, minute, visits.outOf(visit))) {
            return deny(HINDERED);
        }
        visits.endLastStay(visit, minute + towMinutes);
        visits.addStay(visit, stand, minute);
        return allow();
    }

    public int plan() {
        line.empty();
        for (int v = 0; v < visits.size; v++) {
            if (visits.isToCome(v)) {
                line.joinByIn(v, visits);
            }
        }
        return grant(line.length - serveLine());
    }

    public int search() {
        int found = searcher.takeFirst();
        return found == FINE ? grant(searcher.tries) : refuse(found);
    }

    public int most() {
        int found = searcher.takeBest();
        return found == FINE ? grant(searcher.bestScore) : refuse(found);
    }

    public int late(int visit, int out) {
        if (!visits.has(visit)) {
            return refuse(NO_VISIT);
        }
        if (visits.lengths[visit] <= OUT_AT || out <= visits.outOf(visit) || out > DAYS_END) {
            return refuse(BAD_NUMBER);
        }
        if (!visits.isPut(visit)) {
            return refuse(PUT_OR_NOT);
        }
        int obstacle = delay.makeRoom(visit, out);
        if (obstacle != NOTHING) {
            keepReason(obstacle);
            return refuse(NOT_LATE);
        }
        return grant(delay.bend(visit, out));
    }

    public int changed(int k) {
        return delay.bent.memberAt(k);
    }

    public int now(int minute) {
        if (!isWithin(minute, visits.now, LAST_MINUTE)) {
            return refuse(BAD_NUMBER);
        }
        visits.now = minute;
        line.empty();
        for (int v = 0; v < visits.size; v++) {
            if (visits.isWaiting(v)) {
                line.joinByIn(v, visits);
            }
        }
        return grant(serveLine());
    }

    public int waiting() {
        int count = 0;
        for (int v = 0; v < visits.size; v++) {
            if (visits.isWaiting(v)) {
                count++;
            }
        }
        return count;
    }

    public boolean swap(int a, int b) {
        int fault = faultOfSwapping(a, b);
        if (fault != FINE) {
            return deny(fault);
        }
        int standA = visits.standOf(a, 0);
        int standB = visits.standOf(b, 0);
        judge.sendAway(b);
        boolean hindered = isHindered(a, standB, visits.fromOf(a, 0), visits.endOf(a, 0));
        judge.callAllBack();
        if (hindered) {
            return deny(HINDERED);
        }
        visits.moveFirstStay(a, standB);
        if (isHindered(b, standA, visits.fromOf(b, 0), visits.endOf(b, 0))) {
            visits.moveFirstStay(a, standA);
            return deny(HINDERED);
        }
        visits.moveFirstStay(b, standA);
        return allow();
    }

    public int stays(int visit) {
        return visits.has(visit) ? grant(visits.stayCounts[visit]) : refuse(NO_VISIT);
    }

    public int stay(int visit, int k, int what) {
        if (!visits.has(visit)) {
            return refuse(NO_VISIT);
        }
        if (k < 0 || k >= visits.stayCounts[visit]) {
            return refuse(BAD_NUMBER);
        }
        switch (what) {
            case 0:
                return grant(visits.standOf(visit, k));
            case 1:
                return grant(visits.fromOf(visit, k));
            case 2:
                return grant(visits.endOf(visit, k));
            default:
                return refuse(BAD_NUMBER);
        }
    }

    public int at(int stand, int minute, int k) {
        if (!apron.hasStand(stand) || !isWithin(minute, 0, LAST_MINUTE) || k < 0) {
            return NONE;
        }
        int ahead = k;
        for (int v = 0; v < visits.size; v++) {
            if (visits.isThere(v, stand, minute, minute + 1)) {
                if (ahead == 0) {
                    return v;
                }
                ahead--;
            }
        }
        return apron.firstCone(stand, minute, minute + 1) == NONE ? NONE : CONE_ALONE;
    }

    public int crowd(int minute, int wing, int k) {
        if (!isWithin(minute, 0, LAST_MINUTE) || !isWithin(wing, LEAST_WIDTH, MOST_WIDTH) || k < 0) {
            return NONE;
        }
        judge.regardPlane(wing);
        int ahead = k;
        for (int s = 0; s < apron.stands; s++) {
            if (judge.against(s, minute, minute + 1) == NOTHING) {
                if (ahead == 0) {
                    return s;
                }
                ahead--;
            }
        }
        return NONE;
    }

    private int faultOfLooking(int visit, int stand) {
        if (!apron.hasStand(stand)) {
            return NO_STAND;
        }
        if (!visits.has(visit)) {
            return NO_VISIT;
        }
        return visits.isUnknown(visit) ? IS_UNKNOWN : FINE;
    }

    private int faultOfPutting(int visit, int stand) {
        int fault = faultOfLooking(visit, stand);
        if (fault != FINE) {
            return fault;
        }
        if (visits.isPut(visit)) {
            return PUT_OR_NOT;
        }
        return visits.hasBegun(visit) ? HAS_BEGUN : FINE;
    }

    private int faultOfTowing(int visit, int minute, int stand) {
        if (!apron.hasStand(stand)) {
            return NO_STAND;
        }
        if (!visits.has(visit)) {
            return NO_VISIT;
        }
        if (!visits.isPut(visit)) {
            return PUT_OR_NOT;
        }
        int last = visits.stayCounts[visit] - 1;
        if (visits.standOf(visit, last) == stand || visits.fromOf(visit, last) >= minute) {
            return BAD_NUMBER;
        }
        // TOWTIME is taken from OUT, not added to the minute, which may be any int and would wrap.
        if (minute <= visits.now || minute >= visits.outOf(visit) - towMinutes) {
            return BAD_NUMBER;
        }
        return visits.stayCounts[visit] >= MOST_STAYS ? TOO_MANY : FINE;
    }

    private int faultOfSwapping(int a, int b) {
        if (!visits.has(a) || !visits.has(b) || a == b) {
            return NO_VISIT;
        }
        if (visits.isUnknown(a) || visits.isUnknown(b)) {
            return IS_UNKNOWN;
        }
        if (visits.stayCounts[a] != 1 || visits.stayCounts[b] != 1) {
            return PUT_OR_NOT;
        }
        return visits.hasBegun(a) || visits.hasBegun(b) ? HAS_BEGUN : FINE;
    }

    /** Those to come begin at their IN, those WAITING at NOW: it is the later one of both. */
    private int serveLine() {
        int served = 0;
        for (int i = 0; i < line.length; i++) {
            int v = line.members[i];
            int from = Math.max(visits.inOf(v), visits.now);
            if (visits.place(v, judge.bestStand(v, from), from)) {
                served++;
            }
        }
        return served;
    }

    private boolean isHindered(int visit, int stand, int from, int to) {
        judge.regard(visit);
        int found = judge.against(stand, from, to);
        if (found == NOTHING) {
            return false;
        }
        keepReason(found);
        return true;
    }

    private void keepReason(int found) {
        lastReason = found;
        lastAgainst = judge.by;
    }

    private int grant(int answer) {
        lastStatus = FINE;
        return answer;
    }

    private boolean allow() {
        lastStatus = FINE;
        return true;
    }

    private int refuse(int fault) {
        lastStatus = fault;
        return NONE;
    }

    private boolean deny(int fault) {
        lastStatus = fault;
        return false;
    }

    private static boolean isWithin(int number, int least, int most) {
        return number >= least && number <= most;
    }

    private static boolean isSpan(int from, int to) {
        return from >= 0 && from < to && to <= DAYS_END;
    }

    private static boolean haveCommonMinute(int fromA, int endA, int fromB, int endB) {
        return fromA < endB && fromB < endA;
    }

    /** The STANDS, the PAIRS and the CONES. */
    private static final class Ground {
        private final int[] kinds = new int[MOST_STANDS];
        private final int[] sizes = new int[MOST_STANDS];
        private final int[] pairA = new int[MOST_PAIRS];
        private final int[] pairB = new int[MOST_PAIRS];
        private final int[] limitsA = new int[MOST_PAIRS];
        private final int[] limitsB = new int[MOST_PAIRS];
        private final int[] coneStands = new int[MOST_CONES];
        private final int[] coneFroms = new int[MOST_CONES];
        private final int[] coneEnds = new int[MOST_CONES];
        private int stands;
        private int pairs;
        private int cones;

        private boolean hasStand(int s) {
            return s >= 0 && s < stands;
        }

        private int addStand(int kind, int size) {
            kinds[stands] = kind;
            sizes[stands] = size;
            stands++;
            return stands - 1;
        }

        private int addPair(int a, int b, int limitA, int limitB) {
            pairA[pairs] = a;
            pairB[pairs] = b;
            limitsA[pairs] = limitA;
            limitsB[pairs] = limitB;
            pairs++;
            return pairs;
        }

        private int addCone(int s, int from, int to) {
            coneStands[cones] = s;
            coneFroms[cones] = from;
            coneEnds[cones] = to;
            cones++;
            return cones - 1;
        }

        private boolean hasGate(int s) {
            return kinds[s] == BRIDGE || kinds[s] == TWIN;
        }

        private int halfOf(int s) {
            return sizes[s] / 2;
        }

        private boolean areTooNear(int s, int wing, int q, int otherWing) {
            for (int p = 0; p < pairs; p++) {
                boolean toldThisWay = pairA[p] == s && pairB[p] == q;
                if (toldThisWay && (wing > limitsA[p] || otherWing > limitsB[p])) {
                    return true;
                }
                boolean toldOtherWay = pairA[p] == q && pairB[p] == s;
                if (toldOtherWay && (wing > limitsB[p] || otherWing > limitsA[p])) {
                    return true;
                }
            }
            return false;
        }

        private int firstCone(int s, int from, int to) {
            for (int c = 0; c < cones; c++) {
                if (coneStands[c] == s && haveCommonMinute(from, to, coneFroms[c], coneEnds[c])) {
                    return c;
                }
            }
            return NONE;
        }
    }

    /** The ROWS of the VISITS, their STAYS, and NOW, by which they have BEGUN. */
    private static final class Visits {
        private final int[] rows = new int[MOST_VISITS * ROW];
        private final int[] lengths = new int[MOST_VISITS];
        private final int[] stayCounts = new int[MOST_VISITS];
        private final int[] stayStands = new int[MOST_VISITS * MOST_STAYS];
        private final int[] stayFroms = new int[MOST_VISITS * MOST_STAYS];
        private final int[] stayEnds = new int[MOST_VISITS * MOST_STAYS];
        private int size;
        private int now;

        private boolean has(int v) {
            return v >= 0 && v < size;
        }

        private int add(int kind, int wing, int in, int out, int need) {
            int first = size * ROW;
            rows[first + KIND_AT] = kind;
            rows[first + WING_AT] = wing;
            rows[first + IN_AT] = in;
            rows[first + OUT_AT] = out;
            rows[first + NEED_AT] = need;
            lengths[size] = ROW;
            size++;
            return size - 1;
        }

        private int kindOf(int v) {
            return rows[v * ROW + KIND_AT];
        }

        private int wingOf(int v) {
            return rows[v * ROW + WING_AT];
        }

        private int inOf(int v) {
            return rows[v * ROW + IN_AT];
        }

        private int outOf(int v) {
            return lengths[v] > OUT_AT ? rows[v * ROW + OUT_AT] : DAYS_END;
        }

        private int needOf(int v) {
            return lengths[v] > NEED_AT ? rows[v * ROW + NEED_AT] : NEEDS_NONE;
        }

        private boolean isUnknown(int v) {
            return lengths[v] <= IN_AT;
        }

        private boolean hasBegun(int v) {
            return !isUnknown(v) && inOf(v) <= now;
        }

        private boolean isPut(int v) {
            return stayCounts[v] > 0;
        }

        private boolean isToCome(int v) {
            return !isPut(v) && !isUnknown(v) && !hasBegun(v);
        }

        private boolean isWaiting(int v) {
            return !isPut(v) && hasBegun(v) && outOf(v) > now;
        }

        private int standOf(int v, int k) {
            return stayStands[v * MOST_STAYS + k];
        }

        private int fromOf(int v, int k) {
            return stayFroms[v * MOST_STAYS + k];
        }

        private int endOf(int v, int k) {
            return stayEnds[v * MOST_STAYS + k];
        }

        private boolean isStayAt(int v, int k, int s, int from, int to) {
            int slot = v * MOST_STAYS + k;
            return stayStands[slot] == s && stayFroms[slot] < to && from < stayEnds[slot];
        }

        /** A VISIT may be towed away and back, and so be at a STAND by two STAYS: it is there once. */
        private boolean isThere(int v, int s, int from, int to) {
            for (int k = 0; k < stayCounts[v]; k++) {
                if (isStayAt(v, k, s, from, to)) {
                    return true;
                }
            }
            return false;
        }

        /** False, and nothing is done, where there is no STAND for it. */
        private boolean place(int v, int s, int from) {
            if (s == NONE) {
                return false;
            }
            stayCounts[v] = 0;
            addStay(v, s, from);
            return true;
        }

        private void addStay(int v, int s, int from) {
            int slot = v * MOST_STAYS + stayCounts[v];
            stayStands[slot] = s;
            stayFroms[slot] = from;
            stayEnds[slot] = outOf(v);
            stayCounts[v]++;
        }

        private void endLastStay(int v, int end) {
            stayEnds[v * MOST_STAYS + stayCounts[v] - 1] = end;
        }

        private void moveFirstStay(int v, int s) {
            stayStands[v * MOST_STAYS] = s;
        }

        private void takeOff(int v) {
            stayCounts[v] = 0;
        }

        private void makeLate(int v, int out) {
            rows[v * ROW + OUT_AT] = out;
            endLastStay(v, out);
        }
    }

    /** VISITS in the order in which they have their turn. */
    private static final class Line {
        private final int[] members = new int[MOST_VISITS];
        private int length;

        private void empty() {
            length = 0;
        }

        private int memberAt(int k) {
            return k >= 0 && k < length ? members[k] : NONE;
        }

        private void join(int v) {
            if (length < MOST_VISITS) {
                members[length] = v;
                length++;
            }
        }

        /** VISITS join by rising number, so one with the same IN stays behind those already there. */
        private void joinByIn(int v, Visits visits) {
            if (length >= MOST_VISITS) {
                return;
            }
            int place = length;
            while (place > 0 && visits.inOf(members[place - 1]) > visits.inOf(v)) {
                members[place] = members[place - 1];
                place--;
            }
            members[place] = v;
            length++;
        }
    }

    /** Tells WHAT IS AGAINST a STAY, BY whom, and which STAND is BEST. */
    private static final class Judge {
        private final Ground apron;
        private final Visits visits;
        private final boolean[] away = new boolean[MOST_VISITS];
        private int self;
        private int kind;
        private int wing;
        private int need;
        private int by;

        private Judge(Ground apron, Visits visits) {
            this.apron = apron;
            this.visits = visits;
            by = NONE;
        }

        /** From here on the STAYS of this VISIT are overlooked, though they are still told. */
        private void sendAway(int v) {
            if (visits.has(v)) {
                away[v] = true;
            }
        }

        private void callAllBack() {
            for (int v = 0; v < MOST_VISITS; v++) {
                away[v] = false;
            }
        }

        private void regard(int v) {
            self = v;
            kind = visits.kindOf(v);
            wing = visits.wingOf(v);
            need = visits.needOf(v);
        }

        private void regardPlane(int planeWing) {
            self = NONE;
            kind = PLANE;
            wing = planeWing;
            need = NEEDS_NONE;
        }

        private int bestStand(int v, int from) {
            regard(v);
            int to = visits.outOf(v);
            int[] order = kind == FREIGHT ? FREIGHT_ORDER : COMMON_ORDER;
            for (int i = 0; i < order.length; i++) {
                int best = NONE;
                for (int s = 0; s < apron.stands; s++) {
                    boolean isLess = best == NONE || apron.sizes[s] < apron.sizes[best];
                    if (apron.kinds[s] == order[i] && isLess && against(s, from, to) == NOTHING) {
                        best = s;
                    }
                }
                if (best != NONE) {
                    return best;
                }
            }
            return NONE;
        }

        /** What is first against the one regarded, for a STAY there; by tells BY whom. */
        private int against(int s, int from, int to) {
            by = NONE;
            if (wing > apron.sizes[s]) {
                return BY_SIZE;
            }
            if (isUnfit(s, from, to)) {
                return BY_NEED;
            }
            by = firstNeighbour(s, from, to);
            if (by != NONE) {
                return BY_NEIGHBOUR;
            }
            by = apron.firstCone(s, from, to);
            if (by != NONE) {
                return BY_CONE;
            }
            by = firstTaker(s, from, to);
            return by != NONE ? BY_TAKER : NOTHING;
        }

        private boolean isUnfit(int s, int from, int to) {
            boolean gate = apron.hasGate(s);
            boolean hangar = apron.kinds[s] == HANGAR;
            if (need == NEEDS_BRIDGE && !gate || need == NEEDS_HANGAR && !hangar) {
                return true;
            }
            if (kind == FREIGHT && gate || kind == WIDE && hangar) {
                return true;
            }
            return kind == SLEEPER && gate && haveCommonMinute(from, to, NIGHT_FROM, NIGHT_END);
        }

        private int firstNeighbour(int s, int from, int to) {
            for (int u = 0; u < visits.size; u++) {
                if (isOther(u) && isNeighbour(u, s, from, to)) {
                    return u;
                }
            }
            return NONE;
        }

        private boolean isNeighbour(int u, int s, int from, int to) {
            for (int k = 0; k < visits.stayCounts[u]; k++) {
                if (haveCommonMinute(from, to, visits.fromOf(u, k), visits.endOf(u, k))
                        && apron.areTooNear(s, wing, visits.standOf(u, k), visits.wingOf(u))) {
                    return true;
                }
            }
            return false;
        }

        private int firstTaker(int s, int from, int to) {
            for (int u = 0; u < visits.size; u++) {
                for (int k = 0; isOther(u) && k < visits.stayCounts[u]; k++) {
                    if (visits.isStayAt(u, k, s, from, to)
                            && (!mayShare(u, s) || isThirdThere(u, k, from, to))) {
                        return u;
                    }
                }
            }
            return NONE;
        }

        private boolean mayShare(int u, int s) {
            int half = apron.halfOf(s);
            return apron.kinds[s] == TWIN && wing <= half && visits.wingOf(u) <= half;
        }

        private boolean isThirdThere(int u, int k, int from, int to) {
            int s = visits.standOf(u, k);
            int commonFrom = Math.max(from, visits.fromOf(u, k));
            int commonEnd = Math.min(to, visits.endOf(u, k));
            for (int w = 0; w < visits.size; w++) {
                for (int j = 0; w != u && isOther(w) && j < visits.stayCounts[w]; j++) {
                    if (visits.isStayAt(w, j, s, commonFrom, commonEnd)) {
                        return true;
                    }
                }
            }
            return false;
        }

        private boolean isOther(int u) {
            return u != self && !away[u];
        }
    }

    /** SEARCH and MOST. The STAYS that are tried are put for the time, so the judge sees them. */
    private static final class Searcher {
        private final Ground apron;
        private final Visits visits;
        private final Judge judge;
        private final Line line = new Line();
        private final int[] choices = new int[MOST_VISITS];
        private final int[] bestChoices = new int[MOST_VISITS];
        private int depth;
        private int tries;
        private int bestScore;

        private Searcher(Ground apron, Visits visits, Judge judge) {
            this.apron = apron;
            this.visits = visits;
            this.judge = judge;
        }

        private int takeFirst() {
            begin();
            int found = line.length == 0 ? FINE : goToNextWhole();
            if (found != FINE) {
                takeAllOff();
            }
            return found;
        }

        private int takeBest() {
            begin();
            if (line.length == 0) {
                bestScore = 0;
                return FINE;
            }
            bestScore = NONE;
            int found = goToNextWhole();
            // Each WHOLE costs a TRY at least, so there are no more of them than TRIES.
            for (int wholes = 0; wholes < MOST_TRIES && found == FINE; wholes++) {
                keepIfBetter();
                found = goToNextWhole();
            }
            takeAllOff();
            if (found == NO_WHOLE && bestScore != NONE) {
                putBest();
                return FINE;
            }
            return found;
        }

        private void begin() {
            line.empty();
            for (int v = 0; v < visits.size; v++) {
                if (visits.isToCome(v)) {
                    line.join(v);
                }
            }
            tries = 0;
            depth = 0;
            choices[0] = NONE;
        }

        /** Goes on from where it stands: FINE at a WHOLE, else NO_WHOLE (any more) or IS_SPENT. */
        private int goToNextWhole() {
            // A step is a TRY or goes back, and only a TRY before can have led to where it goes back from.
            for (int step = 0; step <= 3 * MOST_TRIES; step++) {
                if (depth < 0) {
                    return NO_WHOLE;
                }
                int v = line.members[depth];
                visits.takeOff(v);
                choices[depth]++;
                if (choices[depth] >= apron.stands) {
                    depth--;
                    continue;
                }
                if (tries >= MOST_TRIES) {
                    return IS_SPENT;
                }
                tries++;
                judge.regard(v);
                int from = visits.inOf(v);
                if (judge.against(choices[depth], from, visits.outOf(v)) == NOTHING) {
                    visits.place(v, choices[depth], from);
                    if (depth == line.length - 1) {
                        return FINE;
                    }
                    depth++;
                    choices[depth] = NONE;
                }
            }
            return IS_SPENT;
        }

        private void keepIfBetter() {
            int score = 0;
            for (int i = 0; i < line.length; i++) {
                if (apron.hasGate(choices[i])) {
                    score++;
                }
            }
            if (score > bestScore) {
                bestScore = score;
                System.arraycopy(choices, 0, bestChoices, 0, line.length);
            }
        }

        private void putBest() {
            for (int i = 0; i < line.length; i++) {
                int v = line.members[i];
                visits.place(v, bestChoices[i], visits.inOf(v));
            }
        }

        private void takeAllOff() {
            for (int i = 0; i < line.length; i++) {
                visits.takeOff(line.members[i]);
            }
        }
    }

    /** LATE, and those CHANGED by it. */
    private static final class Delay {
        private final Visits visits;
        private final Judge judge;
        private final Line movers = new Line();
        private final Line bent = new Line();
        private final int[] formerStands = new int[MOST_VISITS];

        private Delay(Visits visits, Judge judge) {
            this.visits = visits;
            this.judge = judge;
        }

        /**
         * What is against the longer last STAY and can't go. All that can is sent away but not yet
         * taken off, so that nothing has to be undone if LATE can't be.
         */
        private int makeRoom(int v, int out) {
            int last = visits.stayCounts[v] - 1;
            int stand = visits.standOf(v, last);
            int from = visits.fromOf(v, last);
            judge.regard(v);
            int found = judge.against(stand, from, out);
            for (int gone = 0; gone < MOST_VISITS && found != NOTHING && canGo(found); gone++) {
                judge.sendAway(judge.by);
                found = judge.against(stand, from, out);
            }
            if (found != NOTHING) {
                judge.callAllBack();
            }
            return found;
        }

        private boolean canGo(int found) {
            boolean isVisit = found == BY_NEIGHBOUR || found == BY_TAKER;
            return isVisit && !visits.hasBegun(judge.by);
        }

        private int bend(int v, int out) {
            visits.makeLate(v, out);
            takeMoversOff();
            bent.empty();
            for (int i = 0; i < movers.length; i++) {
                int u = movers.members[i];
                int from = visits.inOf(u);
                int stand = judge.bestStand(u, from);
                visits.place(u, stand, from);
                if (stand != formerStands[u]) {
                    bent.join(u);
                }
            }
            return bent.length;
        }

        private void takeMoversOff() {
            movers.empty();
            for (int u = 0; u < visits.size; u++) {
                if (judge.away[u]) {
                    movers.joinByIn(u, visits);
                    formerStands[u] = visits.standOf(u, 0);
                    visits.takeOff(u);
                }
            }
            judge.callAllBack();
        }
    }
}
