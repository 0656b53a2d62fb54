/** The bounds that ==== 2, WHAT IS AGAINST a STAY, names. A line above each test has its sentence. */
public final class EdgeAgainstTest {
    private static final Check CHECK = new Check();
    private static final int NONE = ApronDesk.NONE;

    private static final int STAND = 1;
    private static final int BRIDGE = 2;
    private static final int TWIN = 3;
    private static final int REMOTE = 4;
    private static final int HANGAR = 5;

    private static final int PLANE = 1;
    private static final int WIDE = 2;
    private static final int FREIGHT = 3;
    private static final int SLEEPER = 4;

    public static void main(String[] args) {
        otherStaysOfItAside();
        wingAboveSize();
        need1();
        need2();
        freightAtABridgeOrTwin();
        wideAtAHangar();
        sleeperByNight();
        sleeperTillTheEnd();
        onlySleepersMindTheNight();
        neighbourMinuteInCommon();
        neighbourOfAnotherStand();
        neighbourOfAnotherVisit();
        neighbourByAnyStay();
        neighbourLimits();
        neighbourLimitsOfThatPair();
        coneMinuteInCommon();
        coneOnAnotherStand();
        takenMinuteInCommon();
        takenAtEachKind();
        twinOnlyIfNeitherIsAboveHalf();
        twinByThreeMinuteInCommon();
        twinByThreeNeverAllAtOnce();
        twinThirdIsAnotherVisit();
        byTheLeastNeighbour();
        byTheLeastTaker();
        byEitherOfBothOthers();
        byTheLeastCone();
        byNoneOf1And2();
        inThisOrder();
        CHECK.end();
    }

    private static ApronDesk desk(int kind, int size) {
        ApronDesk d = new ApronDesk();
        d.stand(kind, size);
        return d;
    }

    /** What is against a visit, told for it, at a new stand of the kind. */
    private static int whyAt(int standKind, int kind, int in, int out, int need) {
        ApronDesk d = desk(standKind, 100);
        d.visit(kind, 50, in, out, need);
        return d.why(0, 0);
    }

    private static void atEachKind(String name, int kind, int need, int... due) {
        for (int standKind = STAND; standKind <= HANGAR; standKind++) {
            String at = name + " at kind " + standKind;
            CHECK.due(at, whyAt(standKind, kind, 100, 200, need), due[standKind - 1]);
        }
    }

    /** "(other STAYS of v aside)": it does not hinder itself, where it is or where it was towed. */
    private static void otherStaysOfItAside() {
        ApronDesk d = Scene.stands(2);
        d.near(0, 1, 0, 0);
        d.visit(PLANE, 50, 100, 200, 0);
        d.put(0, 0);
        CHECK.done("13: where it is", d.why(0, 0), d, 0);
        CHECK.done("13: beside itself", d.why(0, 1), d, 0);
        CHECK.done("15: to its own neighbour", d.tow(0, 150, 1), d);
        CHECK.done("15: and back where it still is", d.tow(0, 151, 0), d);
        CHECK.done("19: and late", d.late(0, 300), d, 0);
    }

    /** "1 SIZE: WING is above SIZE." One below, at and above it. */
    private static void wingAboveSize() {
        for (int size : new int[] {10, 11, 100, 199, 200}) {
            for (int wing = Math.max(10, size - 1); wing <= Math.min(200, size + 1); wing++) {
                ApronDesk d = desk(STAND, size);
                d.visit(PLANE, wing, 100, 200, 0);
                CHECK.done("13: " + wing + " at " + size, d.why(0, 0), d, wing > size ? 1 : 0);
            }
        }
    }

    /** "2 NEED: NEED 1, and s is no BRIDGE or TWIN". */
    private static void need1() {
        atEachKind("13: a PLANE with NEED 1", PLANE, 1, 2, 0, 0, 2, 2);
        atEachKind("13: a PLANE with NEED 0", PLANE, 0, 0, 0, 0, 0, 0);
    }

    /** "NEED 2, and s is no HANGAR". */
    private static void need2() {
        atEachKind("13: a PLANE with NEED 2", PLANE, 2, 2, 2, 2, 2, 0);
        atEachKind("13: a SLEEPER with NEED 2", SLEEPER, 2, 2, 2, 2, 2, 0);
    }

    /** "a FREIGHT at a BRIDGE or TWIN": nowhere, if it needs one. */
    private static void freightAtABridgeOrTwin() {
        atEachKind("13: a FREIGHT", FREIGHT, 0, 0, 2, 2, 0, 0);
        atEachKind("13: a FREIGHT with NEED 1", FREIGHT, 1, 2, 2, 2, 2, 2);
        atEachKind("13: a FREIGHT with NEED 2", FREIGHT, 2, 2, 2, 2, 2, 0);
    }

    /** "a WIDE at a HANGAR": nowhere, if it needs one. */
    private static void wideAtAHangar() {
        atEachKind("13: a WIDE", WIDE, 0, 0, 0, 0, 0, 2);
        atEachKind("13: a WIDE with NEED 1", WIDE, 1, 2, 0, 0, 2, 2);
        atEachKind("13: a WIDE with NEED 2", WIDE, 2, 2, 2, 2, 2, 2);
    }

    /** "a SLEEPER at a BRIDGE or TWIN, if its SPAN has a MINUTE of 1,320 to 1,559". */
    private static void sleeperByNight() {
        int[][] spans = {
            {100, 1_319, 0}, {100, 1_320, 0}, {100, 1_321, 2}, {1_319, 1_320, 0}, {1_320, 1_321, 2},
            {1_319, 1_321, 2}, {1_558, 1_559, 2}, {1_559, 1_560, 2}, {1_559, 2_880, 2}, {1_558, 2_000, 2},
            {1_560, 1_561, 0}, {1_560, 2_880, 0}, {1_561, 2_880, 0}, {1_320, 1_560, 2}, {1, 2_880, 2},
            {1_400, 1_401, 2}, {1, 2, 0}, {2_879, 2_880, 0},
        };
        for (int[] span : spans) {
            String name = "13: a SLEEPER " + span[0] + " to " + span[1] + " at kind ";
            for (int kind = STAND; kind <= HANGAR; kind++) {
                int due = kind == BRIDGE || kind == TWIN ? span[2] : 0;
                CHECK.due(name + kind, whyAt(kind, SLEEPER, span[0], span[1], 0), due);
            }
        }
    }

    /** "if its SPAN has a MINUTE of 1,320 to 1,559", and "one without OUT is there till 2,880". */
    private static void sleeperTillTheEnd() {
        for (int in = 1_558; in <= 1_561; in++) {
            ApronDesk d = desk(BRIDGE, 100);
            d.visit(SLEEPER, 50, in, in + 1, 0);
            d.visit(SLEEPER, 50, in - 500, in - 499, 0);
            d.tear(0, 3);
            d.tear(1, 3);
            CHECK.done("13: without OUT from " + in, d.why(0, 0), d, in < 1_560 ? 2 : 0);
            CHECK.done("13: without OUT from the day before", d.why(1, 0), d, 2);
        }
    }

    /** "a SLEEPER at a BRIDGE or TWIN, if ..": the night is nothing to a PLANE or a WIDE. */
    private static void onlySleepersMindTheNight() {
        for (int kind = BRIDGE; kind <= TWIN; kind++) {
            CHECK.due("13: a PLANE by night", whyAt(kind, PLANE, 1_320, 1_560, 0), 0);
            CHECK.due("13: a WIDE by night", whyAt(kind, WIDE, 1_320, 1_560, 0), 0);
        }
    }

    /** Spans beside one from 100 to 200, and whether they have a minute in common with it. */
    private static final int[][] BESIDE = {
        {50, 99, 0}, {50, 100, 0}, {50, 101, 1}, {99, 100, 0}, {100, 101, 1}, {99, 101, 1}, {150, 151, 1},
        {100, 200, 1}, {101, 199, 1}, {50, 300, 1}, {198, 199, 1}, {199, 200, 1}, {199, 300, 1},
        {200, 201, 0}, {200, 300, 0}, {201, 300, 0},
    };

    /** "3 NEIGHBOUR: .. a STAY of another VISIT at q with a MINUTE in common". */
    private static void neighbourMinuteInCommon() {
        for (int[] span : BESIDE) {
            ApronDesk d = Scene.stands(2);
            d.near(0, 1, 0, 0);
            d.visit(PLANE, 50, 100, 200, 0);
            d.visit(PLANE, 50, span[0], span[1], 0);
            d.put(0, 0);
            String name = "13: " + span[0] + " to " + span[1];
            CHECK.done(name, d.why(1, 1), d, span[2] == 1 ? 3 : 0);
        }
    }

    /** "a PAIR of s and another STAND q": only what is at the PAIR's other STAND counts. */
    private static void neighbourOfAnotherStand() {
        ApronDesk d = Scene.visits(4);
        d.near(0, 1, 0, 0);
        d.near(1, 2, 0, 0);
        d.put(0, 0);
        CHECK.done("13: the next stand", d.why(1, 1), d, 3);
        CHECK.done("13: the one behind it", d.why(1, 2), d, 0);
        CHECK.done("13: one without a PAIR", d.why(1, 3), d, 0);
        CHECK.done("13: the same stand is TAKEN, no neighbour", d.why(1, 0), d, 5);
        d.off(0);
        d.put(0, 1);
        CHECK.done("13: told as the first of the PAIR", d.why(1, 0), d, 3);
        CHECK.done("13: told as the second of the PAIR", d.why(1, 2), d, 3);
    }

    /** "a STAY of another VISIT at q": a STAY is needed, one that is not PUT hinders nobody. */
    private static void neighbourOfAnotherVisit() {
        ApronDesk d = Scene.visits(2);
        d.near(0, 1, 0, 0);
        CHECK.done("13: nobody is there", d.why(1, 1), d, 0);
        d.put(0, 0);
        CHECK.done("13: somebody is there", d.why(1, 1), d, 3);
        d.off(0);
        CHECK.done("13: nobody is there again", d.why(1, 1), d, 0);
    }

    /** "a STAY of another VISIT at q": during a TOW it is counted at both STANDS. */
    private static void neighbourByAnyStay() {
        int[][] spans = {{104, 105, 3, 0}, {119, 120, 3, 0}, {120, 121, 3, 3}, {124, 125, 3, 3},
            {125, 126, 0, 3}, {199, 200, 0, 3}, {200, 201, 0, 0}};
        for (int[] span : spans) {
            ApronDesk d = Scene.stands(4);
            d.near(0, 2, 0, 0);
            d.near(1, 3, 0, 0);
            d.visit(PLANE, 50, 100, 200, 0);
            d.visit(PLANE, 50, span[0], span[1], 0);
            d.put(0, 0);
            d.tow(0, 120, 1);
            CHECK.done("13: beside its first STAND at " + span[0], d.why(1, 2), d, span[2]);
            CHECK.done("13: beside its second STAND at " + span[0], d.why(1, 3), d, span[3]);
        }
    }

    /** "unless both WINGS are not above the LIMITS told for their STANDS": one below, at, above each. */
    private static void neighbourLimits() {
        for (int there = 49; there <= 51; there++) {
            for (int here = 79; here <= 81; here++) {
                int due = there <= 50 && here <= 80 ? 0 : 3;
                CHECK.due("13: " + there + " and " + here, besides(0, 1, there, here), due);
                CHECK.due("13: " + here + " and " + there, besides(1, 0, here, there), due);
            }
        }
        CHECK.due("13: the LIMITS the wrong way", besides(1, 0, 50, 80), 3);
    }

    /** Stand 0 has LIMIT 50, stand 1 has 80: what is against the second one at stand b. */
    private static int besides(int a, int b, int wingA, int wingB) {
        ApronDesk d = Scene.stands(2);
        d.near(0, 1, 50, 80);
        d.visit(PLANE, wingA, 100, 200, 0);
        d.visit(PLANE, wingB, 100, 200, 0);
        d.put(0, a);
        return d.why(1, b);
    }

    /** "the LIMITS told for their STANDS in that PAIR": of two PAIRS of the same STANDS each counts. */
    private static void neighbourLimitsOfThatPair() {
        int[][] wings = {{60, 40, 0}, {61, 40, 3}, {60, 41, 3}, {60, 60, 3}, {10, 10, 0}};
        for (int[] pair : wings) {
            ApronDesk d = Scene.stands(2);
            d.near(0, 1, 60, 100);
            d.near(1, 0, 40, 100);
            d.visit(PLANE, pair[0], 100, 200, 0);
            d.visit(PLANE, pair[1], 100, 200, 0);
            d.put(0, 0);
            CHECK.done("13: " + pair[0] + " and " + pair[1], d.why(1, 1), d, pair[2]);
        }
    }

    /** "4 CONE: one on s with a MINUTE in common." */
    private static void coneMinuteInCommon() {
        for (int[] span : BESIDE) {
            ApronDesk d = Scene.stands(1);
            d.visit(PLANE, 50, 100, 200, 0);
            d.cone(0, span[0], span[1]);
            CHECK.done("13: a CONE " + span[0], d.why(0, 0), d, span[2] == 1 ? 4 : 0);
            ApronDesk other = Scene.stands(1);
            other.cone(0, 100, 200);
            other.visit(PLANE, 50, span[0], span[1], 0);
            CHECK.done("13: a VISIT " + span[0], other.why(0, 0), other, span[2] == 1 ? 4 : 0);
        }
    }

    /** "4 CONE: one on s": one on another STAND is nothing to it, a neighbour or not. */
    private static void coneOnAnotherStand() {
        ApronDesk d = Scene.visits(2);
        d.near(0, 1, 0, 0);
        d.cone(1, 0, 2_880);
        CHECK.done("13: beside the CONE", d.why(0, 0), d, 0);
        CHECK.done("13: at the CONE", d.why(0, 1), d, 4);
    }

    /** "5 TAKEN: a STAY of another VISIT at s with a MINUTE in common". */
    private static void takenMinuteInCommon() {
        for (int[] span : BESIDE) {
            ApronDesk d = Scene.stands(1);
            d.visit(PLANE, 50, 100, 200, 0);
            d.visit(PLANE, 50, span[0], span[1], 0);
            d.put(0, 0);
            String name = "13: " + span[0] + " to " + span[1];
            CHECK.done(name, d.why(1, 0), d, span[2] == 1 ? 5 : 0);
        }
    }

    /** "but at a TWIN": at no other KIND may two be, however small they are. */
    private static void takenAtEachKind() {
        for (int kind = STAND; kind <= HANGAR; kind++) {
            ApronDesk d = desk(kind, 200);
            d.visit(PLANE, 10, 100, 200, 0);
            d.visit(PLANE, 10, 100, 200, 0);
            d.put(0, 0);
            CHECK.done("13: two at kind " + kind, d.why(1, 0), d, kind == TWIN ? 0 : 5);
        }
    }

    /** "at a TWIN, if neither WING is above HALF": HALF of 101 is 50. */
    private static void twinOnlyIfNeitherIsAboveHalf() {
        for (int there = 49; there <= 51; there++) {
            for (int here = 49; here <= 51; here++) {
                ApronDesk d = desk(TWIN, 101);
                d.visit(PLANE, there, 100, 200, 0);
                d.visit(PLANE, here, 199, 300, 0);
                d.put(0, 0);
                int due = there <= 50 && here <= 50 ? 0 : 5;
                CHECK.done("13: " + there + " and " + here, d.why(1, 0), d, due);
            }
        }
    }

    /** "only if another VISIT .. has a STAY there with a MINUTE that all three have in common". */
    private static void twinByThreeMinuteInCommon() {
        for (int[] span : BESIDE) {
            ApronDesk d = desk(TWIN, 100);
            d.visit(PLANE, 50, 40, 200, 0);
            d.visit(PLANE, 50, 100, 400, 0);
            d.visit(PLANE, 50, span[0], span[1], 0);
            d.put(0, 0);
            d.put(1, 0);
            CHECK.done("13: " + span[0] + " to " + span[1], d.why(2, 0), d, span[2] == 1 ? 5 : 0);
        }
    }

    /** "a MINUTE that all three have in common": each two have one, but not all three. */
    private static void twinByThreeNeverAllAtOnce() {
        ApronDesk d = desk(TWIN, 100);
        d.visit(PLANE, 50, 100, 150, 0);
        d.visit(PLANE, 50, 150, 200, 0);
        d.visit(PLANE, 50, 100, 200, 0);
        d.put(0, 0);
        d.put(1, 0);
        CHECK.done("12: one at a time beside it", d.put(2, 0), d);
        d.visit(PLANE, 50, 200, 201, 0);
        CHECK.done("12: the next minute", d.put(3, 0), d);
        d.visit(PLANE, 50, 149, 150, 0);
        CHECK.hindered("12: a third at 149", d.put(4, 0), d, 5, 0);
    }

    /** "another VISIT (that is neither)": a VISIT towed away and back has two STAYS and is one. */
    private static void twinThirdIsAnotherVisit() {
        ApronDesk d = desk(TWIN, 100);
        d.stand(STAND, 100);
        d.visit(PLANE, 50, 100, 300, 0);
        d.visit(PLANE, 50, 100, 300, 0);
        d.visit(PLANE, 50, 100, 300, 0);
        d.put(0, 0);
        d.tow(0, 150, 1);
        d.tow(0, 151, 0);
        CHECK.done("12: beside two STAYS of one", d.put(1, 0), d);
        CHECK.hindered("12: beside one more", d.put(2, 0), d, 5, 0);
    }

    /** "of 3 .. the VISIT with the least number of which that is so": not the first PAIR's or STAND's. */
    private static void byTheLeastNeighbour() {
        ApronDesk d = Scene.visits(5);
        d.near(0, 4, 0, 0);
        d.near(0, 1, 50, 49);
        d.near(2, 0, 0, 0);
        d.near(0, 3, 200, 200);
        d.put(0, 3);
        d.put(3, 4);
        CHECK.done("13: one", d.why(4, 0), d, 3);
        CHECK.because("13: one", d, 3, 3);
        d.put(2, 1);
        d.why(4, 0);
        CHECK.because("13: two", d, 3, 2);
        d.put(1, 2);
        d.why(4, 0);
        CHECK.because("13: three", d, 3, 1);
    }

    /** "of .. 5 the VISIT with the least number of which that is so": not the one that is there first. */
    private static void byTheLeastTaker() {
        ApronDesk d = Scene.stands(1);
        d.visit(PLANE, 50, 300, 301, 0);
        d.visit(PLANE, 50, 199, 300, 0);
        d.visit(PLANE, 50, 100, 101, 0);
        d.visit(PLANE, 50, 100, 200, 0);
        d.put(0, 0);
        d.put(2, 0);
        CHECK.hindered("12: one", d.put(3, 0), d, 5, 2);
        d.put(1, 0);
        CHECK.hindered("12: two", d.put(3, 0), d, 5, 1);
    }

    /** "(of 5 at a TWIN by three: either of both others)": the least of them, whoever it is. */
    private static void byEitherOfBothOthers() {
        ApronDesk d = desk(TWIN, 100);
        d.visit(PLANE, 50, 100, 150, 0);
        d.visit(PLANE, 50, 300, 400, 0);
        d.visit(PLANE, 50, 299, 301, 0);
        d.visit(PLANE, 50, 120, 500, 0);
        d.put(0, 0);
        d.put(1, 0);
        d.put(2, 0);
        CHECK.hindered("12: 0 is there, but alone", d.put(3, 0), d, 5, 1);
        d.visit(PLANE, 50, 149, 150, 0);
        d.put(4, 0);
        CHECK.hindered("12: 0 and 4 are there", d.put(3, 0), d, 5, 0);
    }

    /** "of 4 the CONE with the least number": told first, though it begins later. */
    private static void byTheLeastCone() {
        ApronDesk d = Scene.visits(1);
        d.cone(0, 200, 300);
        d.cone(0, 199, 200);
        d.cone(0, 100, 101);
        d.why(0, 0);
        CHECK.because("13: 1, not 2", d, 4, 1);
        ApronDesk first = Scene.visits(1);
        first.cone(0, 150, 151);
        first.why(0, 0);
        CHECK.because("13: 0", first, 4, 0);
    }

    /** "NONE of 1, 2": though there was somebody before. */
    private static void byNoneOf1And2() {
        ApronDesk d = Scene.visits(1);
        d.stand(STAND, 10);
        d.stand(HANGAR, 200);
        d.cone(0, 100, 200);
        d.visit(WIDE, 50, 100, 200, 0);
        d.why(0, 0);
        CHECK.because("13: a CONE", d, 4, 0);
        CHECK.done("13: SIZE", d.why(0, 1), d, 1);
        CHECK.because("13: SIZE", d, 1, NONE);
        d.why(0, 0);
        CHECK.done("13: NEED", d.why(1, 2), d, 2);
        CHECK.because("13: NEED", d, 2, NONE);
    }

    /** "in this order": all five are against it, and one after the other is left out. */
    private static void inThisOrder() {
        for (int first = 1; first <= 5; first++) {
            ApronDesk d = desk(STAND, first <= 1 ? 49 : 50);
            d.stand(REMOTE, 200);
            d.visit(PLANE, 49, 100, 200, 0);
            d.visit(PLANE, 49, 100, 200, 0);
            d.visit(PLANE, 50, 100, 200, first <= 2 ? 1 : 0);
            d.put(0, 0);
            d.put(1, 1);
            if (first <= 3) {
                d.near(0, 1, 0, 0);
            }
            if (first <= 4) {
                d.cone(0, 150, 151);
            }
            CHECK.done("13: first is " + first, d.why(2, 0), d, first);
        }
    }
}
