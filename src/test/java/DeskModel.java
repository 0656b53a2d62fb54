import java.util.ArrayList;
import java.util.BitSet;
import java.util.Comparator;
import java.util.List;

/**
 * The document once more, as plainly as can be and without a thought of speed: minutes are looked
 * at one by one, and a call that can't be done is undone by going back to a copy of all visits.
 */
public final class DeskModel {
    private record Stand(int kind, int size) { }

    private record Pair(int a, int b, int limitA, int limitB) { }

    private record Cone(int stand, int from, int to) { }

    private record Stay(int stand, int from, int to) {
        BitSet minutes() {
            BitSet set = new BitSet();
            set.set(from, to);
            return set;
        }
    }

    private static final class Visit {
        final int number;
        final List<Integer> row = new ArrayList<>();
        final List<Stay> stays = new ArrayList<>();

        Visit(int number) {
            this.number = number;
        }

        int out() {
            return row.size() > 3 ? row.get(3) : 2880;
        }

        int need() {
            return row.size() > 4 ? row.get(4) : 0;
        }

        boolean unknown() {
            return row.size() < 3;
        }

        boolean put() {
            return !stays.isEmpty();
        }

        Visit copy() {
            Visit v = new Visit(number);
            v.row.addAll(row);
            v.stays.addAll(stays);
            return v;
        }
    }

    private record Against(int number, int by) { }

    private static final Against NOTHING = new Against(0, -1);

    private static final class SpentException extends Exception {
        private static final long serialVersionUID = 1L;
    }

    private final List<Stand> stands = new ArrayList<>();
    private final List<Pair> pairs = new ArrayList<>();
    private final List<Cone> cones = new ArrayList<>();
    private List<Visit> visits = new ArrayList<>();
    private List<Integer> changed = new ArrayList<>();
    private int towtime = 5;
    private int now;
    private int status;
    private Against latest = NOTHING;
    private int tries;
    private List<Integer> bestWhole;
    private int bestScore;

    public int status() {
        return status;
    }

    public int reason(int what) {
        return what == 0 ? latest.number : what == 1 ? latest.by : -1;
    }

    private int no(int why) {
        status = why;
        return -1;
    }

    private int yes(int answer) {
        status = 0;
        return answer;
    }

    private boolean in(int x, int a, int b) {
        return a <= x && x <= b;
    }

    private boolean isStand(int s) {
        return in(s, 0, stands.size() - 1);
    }

    private boolean isVisit(int v) {
        return in(v, 0, visits.size() - 1);
    }

    public int stand(int kind, int size) {
        if (!in(kind, 1, 5) || !in(size, 10, 200)) {
            return no(3);
        }
        if (stands.size() == 24) {
            return no(4);
        }
        stands.add(new Stand(kind, size));
        return yes(stands.size() - 1);
    }

    public int ground(int stand, int what) {
        if (!isStand(stand)) {
            return no(1);
        }
        if (!in(what, 0, 1)) {
            return no(3);
        }
        return yes(what == 0 ? stands.get(stand).kind : stands.get(stand).size);
    }

    public int near(int a, int b, int limitA, int limitB) {
        if (!isStand(a) || !isStand(b)) {
            return no(1);
        }
        if (a == b || !in(limitA, 0, 200) || !in(limitB, 0, 200)) {
            return no(3);
        }
        if (pairs.size() == 40) {
            return no(4);
        }
        pairs.add(new Pair(a, b, limitA, limitB));
        return yes(pairs.size());
    }

    public int cone(int stand, int from, int to) {
        if (!isStand(stand)) {
            return no(1);
        }
        if (!in(from, 0, 2879) || !in(to, 1, 2880) || to <= from) {
            return no(3);
        }
        if (cones.size() == 20) {
            return no(4);
        }
        cones.add(new Cone(stand, from, to));
        return yes(cones.size() - 1);
    }

    public boolean towtime(int minutes) {
        if (!in(minutes, 1, 60)) {
            return no(3) == 0;
        }
        towtime = minutes;
        return yes(0) == 0;
    }

    public int visit(int kind, int wing, int in, int out, int need) {
        boolean row = in(kind, 1, 4) && in(wing, 10, 200) && in(need, 0, 2);
        if (!row || !in(in, 0, 2879) || !in(out, 1, 2880) || out <= in) {
            return no(3);
        }
        if (visits.size() == 40) {
            return no(4);
        }
        Visit v = new Visit(visits.size());
        v.row.addAll(List.of(kind, wing, in, out, need));
        visits.add(v);
        return yes(v.number);
    }

    public boolean tear(int visit, int numbers) {
        if (!isVisit(visit)) {
            return no(2) == 0;
        }
        Visit v = visits.get(visit);
        if (!in(numbers, 0, v.row.size())) {
            return no(3) == 0;
        }
        if (v.put()) {
            return no(6) == 0;
        }
        while (v.row.size() > numbers) {
            v.row.remove(v.row.size() - 1);
        }
        return yes(0) == 0;
    }

    public int told(int visit, int k) {
        if (!isVisit(visit)) {
            return no(2);
        }
        List<Integer> row = visits.get(visit).row;
        return in(k, 0, row.size() - 1) ? yes(row.get(k)) : no(3);
    }

    private boolean begun(Visit v) {
        return !v.unknown() && v.row.get(2) <= now;
    }

    private boolean small(Stand s, Visit v) {
        return v.row.get(1) <= s.size / 2;
    }

    private Against against(Visit v, int s, int from, int to) {
        Stand stand = stands.get(s);
        if (v.row.get(1) > stand.size) {
            return new Against(1, -1);
        }
        BitSet span = new Stay(s, from, to).minutes();
        if (unfit(v, stand, span)) {
            return new Against(2, -1);
        }
        for (Visit u : visits) {
            if (u.number != v.number && neighbour(v, s, span, u)) {
                return new Against(3, u.number);
            }
        }
        for (int c = 0; c < cones.size(); c++) {
            Cone cone = cones.get(c);
            if (cone.stand == s && new Stay(s, cone.from, cone.to).minutes().intersects(span)) {
                return new Against(4, c);
            }
        }
        for (Visit u : visits) {
            if (u.number != v.number && takes(v, s, span, u)) {
                return new Against(5, u.number);
            }
        }
        return NOTHING;
    }

    private boolean unfit(Visit v, Stand stand, BitSet span) {
        boolean bridgeOrTwin = stand.kind == 2 || stand.kind == 3;
        int night = span.nextSetBit(1320);
        return v.need() == 1 && !bridgeOrTwin
                || v.need() == 2 && stand.kind != 5
                || v.row.get(0) == 3 && bridgeOrTwin
                || v.row.get(0) == 2 && stand.kind == 5
                || v.row.get(0) == 4 && bridgeOrTwin && night >= 0 && night <= 1559;
    }

    private boolean neighbour(Visit v, int s, BitSet span, Visit u) {
        for (Pair p : pairs) {
            if (p.a != s && p.b != s) {
                continue;
            }
            int q = p.a == s ? p.b : p.a;
            int limitHere = p.a == s ? p.limitA : p.limitB;
            int limitThere = p.a == s ? p.limitB : p.limitA;
            boolean bothSmall = v.row.get(1) <= limitHere && u.row.size() > 1 && u.row.get(1) <= limitThere;
            for (Stay stay : u.stays) {
                if (stay.stand == q && stay.minutes().intersects(span) && !bothSmall) {
                    return true;
                }
            }
        }
        return false;
    }

    private boolean takes(Visit v, int s, BitSet span, Visit u) {
        Stand stand = stands.get(s);
        for (Stay stay : u.stays) {
            BitSet common = stay.minutes();
            common.and(span);
            if (stay.stand != s || common.isEmpty()) {
                continue;
            }
            if (stand.kind != 3 || !small(stand, v) || !small(stand, u)) {
                return true;
            }
            for (Visit w : visits) {
                for (Stay third : w.stays) {
                    boolean neither = w.number != u.number && w.number != v.number;
                    if (neither && third.stand == s && third.minutes().intersects(common)) {
                        return true;
                    }
                }
            }
        }
        return false;
    }

    private int best(Visit v, int from, int to) {
        List<Integer> kinds = v.row.get(0) == 3 ? List.of(4, 1, 5) : List.of(2, 3, 1, 4, 5);
        List<Integer> free = new ArrayList<>();
        for (int s = 0; s < stands.size(); s++) {
            if (against(v, s, from, to) == NOTHING) {
                free.add(s);
            }
        }
        Comparator<Integer> byKind = Comparator.comparing(s -> kinds.indexOf(stands.get(s).kind));
        Comparator<Integer> bySize = Comparator.comparing(s -> stands.get(s).size);
        return free.stream().min(byKind.thenComparing(bySize).thenComparing(s -> s)).orElse(-1);
    }

    private boolean putAtBest(Visit v, int from) {
        int s = best(v, from, v.out());
        if (s >= 0) {
            v.stays.add(new Stay(s, from, v.out()));
        }
        return s >= 0;
    }

    private boolean hindered(Against a, int why) {
        if (a == NOTHING) {
            return false;
        }
        latest = a;
        status = why;
        return true;
    }

    public boolean put(int visit, int stand) {
        if (!isStand(stand)) {
            return no(1) == 0;
        }
        if (!isVisit(visit)) {
            return no(2) == 0;
        }
        Visit v = visits.get(visit);
        if (v.unknown()) {
            return no(5) == 0;
        }
        if (v.put()) {
            return no(6) == 0;
        }
        if (begun(v)) {
            return no(7) == 0;
        }
        if (hindered(against(v, stand, v.row.get(2), v.out()), 8)) {
            return false;
        }
        v.stays.add(new Stay(stand, v.row.get(2), v.out()));
        return yes(0) == 0;
    }

    public int why(int visit, int stand) {
        if (!isStand(stand)) {
            return no(1);
        }
        if (!isVisit(visit)) {
            return no(2);
        }
        Visit v = visits.get(visit);
        if (v.unknown()) {
            return no(5);
        }
        Against a = against(v, stand, v.row.get(2), v.out());
        hindered(a, 0);
        return yes(a.number);
    }

    public boolean off(int visit) {
        if (!isVisit(visit)) {
            return no(2) == 0;
        }
        Visit v = visits.get(visit);
        if (!v.put()) {
            return no(6) == 0;
        }
        if (begun(v)) {
            return no(7) == 0;
        }
        v.stays.clear();
        return yes(0) == 0;
    }

    public boolean tow(int visit, int minute, int stand) {
        if (!isStand(stand)) {
            return no(1) == 0;
        }
        if (!isVisit(visit)) {
            return no(2) == 0;
        }
        Visit v = visits.get(visit);
        if (!v.put()) {
            return no(6) == 0;
        }
        Stay last = v.stays.get(v.stays.size() - 1);
        boolean wrong = last.stand == stand || last.from >= minute || minute <= now;
        if (wrong || v.out() <= (long) minute + towtime) {
            return no(3) == 0;
        }
        if (v.stays.size() == 8) {
            return no(4) == 0;
        }
        if (hindered(against(v, stand, minute, v.out()), 8)) {
            return false;
        }
        v.stays.set(v.stays.size() - 1, new Stay(last.stand, last.from, minute + towtime));
        v.stays.add(new Stay(stand, minute, v.out()));
        return yes(0) == 0;
    }

    private List<Visit> sorted(List<Visit> some) {
        List<Visit> list = new ArrayList<>(some);
        Comparator<Visit> byIn = Comparator.comparing(v -> v.row.get(2));
        list.sort(byIn.thenComparing(v -> v.number));
        return list;
    }

    private List<Visit> toCome() {
        return visits.stream().filter(v -> !v.put() && !v.unknown() && !begun(v)).toList();
    }

    private List<Visit> waitingOnes() {
        return visits.stream().filter(v -> !v.put() && begun(v) && v.out() > now).toList();
    }

    public int plan() {
        int left = 0;
        for (Visit v : sorted(toCome())) {
            left += putAtBest(v, v.row.get(2)) ? 0 : 1;
        }
        return yes(left);
    }

    /** Whether the search is to end. */
    private boolean explore(List<Visit> some, int depth, boolean first) throws SpentException {
        if (depth == some.size()) {
            List<Integer> whole = some.stream().map(v -> v.stays.get(0).stand).toList();
            int score = (int) whole.stream().filter(s -> in(stands.get(s).kind, 2, 3)).count();
            if (score > bestScore) {
                bestScore = score;
                bestWhole = whole;
            }
            return first;
        }
        Visit v = some.get(depth);
        for (int s = 0; s < stands.size(); s++) {
            if (tries == 5000) {
                throw new SpentException();
            }
            tries++;
            if (against(v, s, v.row.get(2), v.out()) == NOTHING) {
                v.stays.add(new Stay(s, v.row.get(2), v.out()));
                boolean end = explore(some, depth + 1, first);
                v.stays.clear();
                if (end) {
                    return true;
                }
            }
        }
        return false;
    }

    private int exploreAll(boolean first) {
        List<Visit> some = toCome();
        tries = 0;
        bestWhole = null;
        bestScore = -1;
        try {
            explore(some, 0, first);
        } catch (SpentException e) {
            some.forEach(v -> v.stays.clear());
            return no(10);
        }
        if (bestWhole == null) {
            return no(11);
        }
        for (int i = 0; i < some.size(); i++) {
            Visit v = some.get(i);
            v.stays.add(new Stay(bestWhole.get(i), v.row.get(2), v.out()));
        }
        return yes(first ? tries : bestScore);
    }

    public int search() {
        return exploreAll(true);
    }

    public int most() {
        return exploreAll(false);
    }

    public int late(int visit, int out) {
        if (!isVisit(visit)) {
            return no(2);
        }
        Visit v = visits.get(visit);
        if (v.row.size() < 4 || out <= v.row.get(3) || out > 2880) {
            return no(3);
        }
        if (!v.put()) {
            return no(6);
        }
        List<Visit> before = new ArrayList<>();
        visits.forEach(u -> before.add(u.copy()));
        v.row.set(3, out);
        Stay last = v.stays.remove(v.stays.size() - 1);
        v.stays.add(new Stay(last.stand, last.from, out));
        List<Visit> gone = new ArrayList<>();
        Against a = against(v, last.stand, last.from, out);
        while (a != NOTHING) {
            if (a.number != 3 && a.number != 5 || begun(visits.get(a.by))) {
                visits = before;
                hindered(a, 9);
                return -1;
            }
            gone.add(visits.get(a.by));
            visits.get(a.by).stays.clear();
            a = against(v, last.stand, last.from, out);
        }
        changed = new ArrayList<>();
        for (Visit u : sorted(gone)) {
            boolean there = putAtBest(u, u.row.get(2));
            if (!there || u.stays.get(0).stand != before.get(u.number).stays.get(0).stand) {
                changed.add(u.number);
            }
        }
        return yes(changed.size());
    }

    public int changed(int k) {
        return in(k, 0, changed.size() - 1) ? changed.get(k) : -1;
    }

    public int now(int minute) {
        if (!in(minute, now, 2879)) {
            return no(3);
        }
        now = minute;
        int served = 0;
        for (Visit v : sorted(waitingOnes())) {
            served += putAtBest(v, now) ? 1 : 0;
        }
        return yes(served);
    }

    public int waiting() {
        return waitingOnes().size();
    }

    public boolean swap(int a, int b) {
        if (!isVisit(a) || !isVisit(b) || a == b) {
            return no(2) == 0;
        }
        Visit first = visits.get(a);
        Visit second = visits.get(b);
        if (first.unknown() || second.unknown()) {
            return no(5) == 0;
        }
        if (first.stays.size() != 1 || second.stays.size() != 1) {
            return no(6) == 0;
        }
        if (begun(first) || begun(second)) {
            return no(7) == 0;
        }
        Stay stayA = first.stays.remove(0);
        Stay stayB = second.stays.remove(0);
        Against found = against(first, stayB.stand, stayA.from, stayA.to);
        if (found == NOTHING) {
            first.stays.add(new Stay(stayB.stand, stayA.from, stayA.to));
            found = against(second, stayA.stand, stayB.from, stayB.to);
            first.stays.clear();
        }
        boolean no = hindered(found, 8);
        first.stays.add(new Stay(no ? stayA.stand : stayB.stand, stayA.from, stayA.to));
        second.stays.add(new Stay(no ? stayB.stand : stayA.stand, stayB.from, stayB.to));
        return !no && yes(0) == 0;
    }

    public int stays(int visit) {
        return isVisit(visit) ? yes(visits.get(visit).stays.size()) : no(2);
    }

    public int stay(int visit, int k, int what) {
        if (!isVisit(visit)) {
            return no(2);
        }
        List<Stay> stays = visits.get(visit).stays;
        if (!in(k, 0, stays.size() - 1) || !in(what, 0, 2)) {
            return no(3);
        }
        Stay s = stays.get(k);
        return yes(what == 0 ? s.stand : what == 1 ? s.from : s.to);
    }

    public int at(int stand, int minute, int k) {
        if (!isStand(stand) || !in(minute, 0, 2879) || k < 0) {
            return -1;
        }
        List<Integer> there = new ArrayList<>();
        for (Visit v : visits) {
            if (v.stays.stream().anyMatch(s -> s.stand == stand && s.minutes().get(minute))) {
                there.add(v.number);
            }
        }
        if (k < there.size()) {
            return there.get(k);
        }
        boolean cone = cones.stream().anyMatch(c -> c.stand == stand && in(minute, c.from, c.to - 1));
        return cone ? -2 : -1;
    }

    public int crowd(int minute, int wing, int k) {
        if (!in(minute, 0, 2879) || !in(wing, 10, 200) || k < 0) {
            return -1;
        }
        Visit plane = new Visit(-5);
        plane.row.addAll(List.of(1, wing, minute, minute + 1, 0));
        List<Integer> free = new ArrayList<>();
        for (int s = 0; s < stands.size(); s++) {
            if (against(plane, s, minute, minute + 1) == NOTHING) {
                free.add(s);
            }
        }
        return k < free.size() ? free.get(k) : -1;
    }
}
