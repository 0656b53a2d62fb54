/** What is against a STAY, BY whom, in which order (==== 2), by put() and why(): promises 12, 13. */
public final class AgainstTest {
    private static final Check CHECK = new Check();
    private static final int NONE = ApronDesk.NONE;

    private static final int STAND = 1;
    private static final int BRIDGE = 2;
    private static final int TWIN = 3;
    private static final int REMOTE = 4;
    private static final int HANGAR = 5;

    private static final int PLANE = 1;
    private static final int WIDE = 2;
    private static final int FREIGHT = 3;
    private static final int SLEEPER = 4;

    public static void main(String[] args) {
        size();
        needAndKind();
        sleeperByNight();
        neighbour();
        neighbourLimitsBelongToTheirStands();
        manyPairs();
        cone();
        taken();
        twin();
        twinByThree();
        twinThirdMayBeWide();
        order();
        put();
        why();
        CHECK.end();
    }

    private static void size() {
        ApronDesk d = new ApronDesk();
        d.stand(STAND, 60);
        d.visit(PLANE, 60, 10, 20, 0);
        d.visit(PLANE, 61, 10, 20, 0);
        CHECK.done("1: as wide as it", d.why(0, 0), d, 0);
        CHECK.hindered("1: wider", d.put(1, 0), d, 1, NONE);
    }

    /** Rows: kind of the visit, need, then what is against it at each of the five kinds of stand. */
    private static void needAndKind() {
        int[][] table = {
            {PLANE, 0, 0, 0, 0, 0, 0},
            {PLANE, 1, 2, 0, 0, 2, 2},
            {PLANE, 2, 2, 2, 2, 2, 0},
            {WIDE, 0, 0, 0, 0, 0, 2},
            {WIDE, 1, 2, 0, 0, 2, 2},
            {WIDE, 2, 2, 2, 2, 2, 2},
            {FREIGHT, 0, 0, 2, 2, 0, 0},
            {FREIGHT, 1, 2, 2, 2, 2, 2},
            {FREIGHT, 2, 2, 2, 2, 2, 0},
            {SLEEPER, 0, 0, 0, 0, 0, 0},
            {SLEEPER, 1, 2, 0, 0, 2, 2},
            {SLEEPER, 2, 2, 2, 2, 2, 0},
        };
        ApronDesk d = new ApronDesk();
        for (int kind = 1; kind <= 5; kind++) {
            d.stand(kind, 100);
        }
        for (int v = 0; v < table.length; v++) {
            d.visit(table[v][0], 50, 100, 200, table[v][1]);
            for (int s = 0; s < 5; s++) {
                String call = "2: kind " + table[v][0] + " need " + table[v][1] + " at kind " + (s + 1);
                CHECK.done(call, d.why(v, s), d, table[v][2 + s]);
            }
        }
        CHECK.because("2: none is BY whom", d, 2, NONE);
    }

    private static void sleeperByNight() {
        ApronDesk d = new ApronDesk();
        d.stand(BRIDGE, 100);
        d.stand(TWIN, 100);
        d.stand(REMOTE, 100);
        d.visit(SLEEPER, 50, 1000, 1320, 0);
        d.visit(SLEEPER, 50, 1000, 1321, 0);
        d.visit(SLEEPER, 50, 1559, 1600, 0);
        d.visit(SLEEPER, 50, 1560, 1600, 0);
        d.visit(SLEEPER, 50, 100, 2800, 0);
        d.visit(PLANE, 50, 1400, 1500, 0);
        int[] due = {0, 2, 2, 0, 2, 0};
        for (int v = 0; v < due.length; v++) {
            CHECK.done("2: night, visit " + v + " at a BRIDGE", d.why(v, 0), d, due[v]);
            CHECK.done("2: night, visit " + v + " at a TWIN", d.why(v, 1), d, due[v]);
            CHECK.done("2: night, visit " + v + " at a REMOTE", d.why(v, 2), d, 0);
        }
    }

    private static void neighbour() {
        ApronDesk d = new ApronDesk();
        d.stand(STAND, 100);
        d.stand(STAND, 100);
        d.stand(STAND, 100);
        d.near(0, 1, 50, 60);
        d.visit(PLANE, 50, 100, 200, 0);
        d.visit(PLANE, 51, 100, 200, 0);
        d.visit(PLANE, 60, 150, 250, 0);
        d.visit(PLANE, 61, 150, 250, 0);
        d.visit(PLANE, 61, 200, 250, 0);
        d.visit(PLANE, 61, 199, 250, 0);
        d.put(0, 0);
        CHECK.done("3: both not above", d.why(2, 1), d, 0);
        CHECK.done("3: the new one above", d.why(3, 1), d, 3);
        CHECK.because("3: the new one above", d, 3, 0);
        CHECK.done("3: no minute in common", d.why(4, 1), d, 0);
        CHECK.done("3: one minute in common", d.why(5, 1), d, 3);
        CHECK.done("3: no pair", d.why(3, 2), d, 0);
        d.off(0);
        d.put(1, 0);
        CHECK.hindered("3: the other one above", d.put(2, 1), d, 3, 1);
    }

    private static void neighbourLimitsBelongToTheirStands() {
        ApronDesk d = new ApronDesk();
        d.stand(STAND, 100);
        d.stand(STAND, 100);
        d.near(1, 0, 90, 20);
        d.visit(PLANE, 90, 100, 200, 0);
        d.visit(PLANE, 20, 100, 200, 0);
        d.visit(PLANE, 21, 100, 200, 0);
        d.put(0, 1);
        CHECK.done("3: told the other way", d.why(1, 0), d, 0);
        CHECK.done("3: told the other way, above", d.why(2, 0), d, 3);
        d.off(0);
        d.put(1, 0);
        CHECK.done("3: the wide one comes later", d.why(0, 1), d, 0);
        d.off(1);
        d.put(1, 1);
        CHECK.done("3: the wide one at the small side", d.why(0, 0), d, 3);
    }

    private static void manyPairs() {
        ApronDesk d = new ApronDesk();
        for (int s = 0; s < 4; s++) {
            d.stand(STAND, 100);
        }
        d.near(0, 3, 100, 100);
        d.near(0, 3, 40, 100);
        d.near(0, 2, 0, 0);
        d.near(0, 1, 0, 0);
        for (int v = 0; v < 4; v++) {
            d.visit(PLANE, 50, 100, 200, 0);
        }
        d.put(1, 3);
        CHECK.done("3: the stricter pair counts", d.why(3, 0), d, 3);
        CHECK.because("3: the stricter pair counts", d, 3, 1);
        d.put(2, 2);
        CHECK.done("3: the least visit, not the first pair", d.why(3, 0), d, 3);
        CHECK.because("3: the least visit, not the first pair", d, 3, 1);
        d.put(0, 1);
        d.why(3, 0);
        CHECK.because("3: the least visit, of the last pair", d, 3, 0);
    }

    private static void cone() {
        ApronDesk d = new ApronDesk();
        d.stand(STAND, 100);
        d.stand(STAND, 100);
        d.cone(1, 0, 2880);
        d.cone(0, 150, 160);
        d.cone(0, 140, 155);
        d.visit(PLANE, 50, 100, 140, 0);
        d.visit(PLANE, 50, 100, 141, 0);
        d.visit(PLANE, 50, 159, 170, 0);
        d.visit(PLANE, 50, 160, 170, 0);
        d.visit(PLANE, 50, 145, 170, 0);
        int[] due = {NONE, 2, 1, NONE, 1};
        for (int v = 0; v < due.length; v++) {
            CHECK.done("4: visit " + v, d.why(v, 0), d, due[v] == NONE ? 0 : 4);
            if (due[v] != NONE) {
                CHECK.because("4: visit " + v, d, 4, due[v]);
            }
        }
    }

    private static void taken() {
        ApronDesk d = new ApronDesk();
        d.stand(STAND, 100);
        d.stand(BRIDGE, 100);
        for (int s = 0; s < 2; s++) {
            d.visit(PLANE, 20, 100, 150, 0);
            d.visit(PLANE, 20, 150, 200, 0);
            d.visit(PLANE, 20, 149, 151, 0);
            d.visit(PLANE, 20, 150, 151, 0);
            d.visit(PLANE, 20, 200, 210, 0);
            CHECK.done("5: put the first", d.put(5 * s, s), d);
            CHECK.done("5: put the next", d.put(5 * s + 1, s), d);
            CHECK.hindered("5: both are in the way", d.put(5 * s + 2, s), d, 5, 5 * s);
            CHECK.hindered("5: the latter is in the way", d.put(5 * s + 3, s), d, 5, 5 * s + 1);
            CHECK.done("5: behind both", d.put(5 * s + 4, s), d);
        }
    }

    private static void twin() {
        ApronDesk d = new ApronDesk();
        d.stand(TWIN, 101);
        d.visit(PLANE, 50, 100, 200, 0);
        d.visit(PLANE, 50, 100, 200, 0);
        d.visit(PLANE, 51, 150, 250, 0);
        d.visit(PLANE, 40, 200, 300, 0);
        d.put(0, 0);
        CHECK.hindered("5: one above HALF", d.put(2, 0), d, 5, 0);
        CHECK.done("5: neither above HALF", d.put(1, 0), d);
        d.off(0);
        d.off(1);
        d.put(2, 0);
        CHECK.hindered("5: the one there above HALF", d.put(1, 0), d, 5, 2);
        CHECK.hindered("5: the one there, too", d.put(3, 0), d, 5, 2);
    }

    private static void twinByThree() {
        ApronDesk d = new ApronDesk();
        d.stand(TWIN, 100);
        d.visit(PLANE, 50, 140, 160, 0);
        d.visit(PLANE, 50, 100, 150, 0);
        d.visit(PLANE, 50, 150, 200, 0);
        d.visit(PLANE, 50, 100, 140, 0);
        d.visit(PLANE, 50, 149, 150, 0);
        d.put(1, 0);
        d.put(2, 0);
        CHECK.done("5: two, but never three at once", d.put(0, 0), d);
        CHECK.done("5: two again", d.put(3, 0), d);
        CHECK.hindered("5: a third at one minute", d.put(4, 0), d, 5, 0);
        d.off(0);
        CHECK.done("5: one has gone", d.put(4, 0), d);
        CHECK.hindered("5: the least of both others", d.put(0, 0), d, 5, 1);
    }

    /** The third need not be small: with it there the small ones are taken by three, too. */
    private static void twinThirdMayBeWide() {
        ApronDesk d = new ApronDesk();
        d.stand(TWIN, 100);
        d.visit(PLANE, 50, 100, 150, 0);
        d.visit(PLANE, 90, 150, 200, 0);
        d.visit(PLANE, 50, 100, 200, 0);
        d.put(0, 0);
        d.put(1, 0);
        CHECK.hindered("5: not all three at once", d.put(2, 0), d, 5, 1);
    }

    private static void order() {
        ApronDesk d = new ApronDesk();
        d.stand(STAND, 50);
        d.stand(STAND, 100);
        d.near(0, 1, 0, 0);
        d.visit(PLANE, 50, 100, 200, 0);
        d.visit(PLANE, 50, 100, 200, 0);
        d.visit(PLANE, 50, 100, 200, 0);
        d.visit(PLANE, 50, 100, 200, 1);
        d.visit(PLANE, 51, 100, 200, 1);
        d.put(0, 0);
        CHECK.done("5 alone", d.why(2, 0), d, 5);
        d.cone(0, 100, 200);
        CHECK.done("4 ahead of 5", d.why(2, 0), d, 4);
        d.off(0);
        d.put(1, 1);
        CHECK.done("3 ahead of 4", d.why(2, 0), d, 3);
        CHECK.done("2 ahead of 3", d.why(3, 0), d, 2);
        CHECK.done("1 ahead of 2", d.why(4, 0), d, 1);
    }

    private static void put() {
        ApronDesk d = new ApronDesk();
        d.stand(STAND, 50);
        d.visit(PLANE, 50, 100, 200, 0);
        d.visit(PLANE, 50, 100, 200, 0);
        d.visit(PLANE, 60, 100, 200, 0);
        d.visit(PLANE, 50, 100, 200, 0);
        d.tear(3, 2);
        CHECK.refused("12: put(0, 1)", d.put(0, 1), d, 1);
        CHECK.refused("12: put(9, -1)", d.put(9, -1), d, 1);
        CHECK.refused("12: put(4, 0)", d.put(4, 0), d, 2);
        CHECK.refused("12: put(-1, 0)", d.put(-1, 0), d, 2);
        CHECK.refused("12: put(3, 0)", d.put(3, 0), d, 5);
        CHECK.done("12: put(0, 0)", d.put(0, 0), d);
        CHECK.stays(d, 0, 0, 100, 200);
        CHECK.refused("12: put(0, 0) again", d.put(0, 0), d, 6);
        CHECK.hindered("12: put(1, 0)", d.put(1, 0), d, 5, 0);
        CHECK.stays(d, 1, NONE, 0, 0);
        d.now(99);
        CHECK.hindered("12: put(2, 0) at 99", d.put(2, 0), d, 1, NONE);
        d.now(100);
        CHECK.refused("12: put(2, 0) at 100", d.put(2, 0), d, 7);
        CHECK.refused("12: put(0, 0) at 100", d.put(0, 0), d, 6);
        CHECK.refused("12: put(3, 0) at 100", d.put(3, 0), d, 5);
    }

    private static void why() {
        ApronDesk d = new ApronDesk();
        d.stand(STAND, 50);
        d.stand(STAND, 40);
        d.visit(PLANE, 50, 100, 200, 0);
        d.visit(PLANE, 50, 100, 200, 0);
        d.tear(1, 1);
        CHECK.refused("13: why(0, 2)", d.why(0, 2), d, 1);
        CHECK.refused("13: why(2, 0)", d.why(2, 0), d, 2);
        CHECK.refused("13: why(2, 2)", d.why(2, 2), d, 1);
        CHECK.refused("13: why(1, 0)", d.why(1, 0), d, 5);
        CHECK.done("13: why(0, 1)", d.why(0, 1), d, 1);
        CHECK.because("13: why(0, 1)", d, 1, NONE);
        d.visit(PLANE, 50, 150, 250, 0);
        d.put(2, 0);
        CHECK.done("13: why(0, 0)", d.why(0, 0), d, 5);
        CHECK.because("13: why(0, 0)", d, 5, 2);
        CHECK.done("13: its own stay is aside", d.why(2, 0), d, 0);
        CHECK.because("13: nothing leaves REASON be", d, 5, 2);
        CHECK.stays(d, 0, NONE, 0, 0);
        d.now(120);
        CHECK.done("13: one that has BEGUN", d.why(0, 0), d, 5);
    }
}
