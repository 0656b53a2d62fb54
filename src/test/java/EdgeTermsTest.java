/** The bounds that "Terms", ==== 1 (THE GROUND), names. A line above each test has its sentence. */
public final class EdgeTermsTest {
    private static final Check CHECK = new Check();
    private static final int NONE = ApronDesk.NONE;

    public static void main(String[] args) {
        minutesFrom0To2879();
        spanToAnotherBehindIt();
        spanWithoutItsEnd();
        standsAtMost24();
        kindsAndSizesOfStands();
        halfIsRoundedDown();
        halfBelowTheLeastWing();
        pairsAtMost40();
        limitsFrom0To200();
        limitsAtTheirEnds();
        conesAtMost20();
        towtimeFrom1To60();
        towtimeIs5AtFirst();
        nowIs0AtFirst();
        visitsAtMost40();
        rowsOfVisits();
        rowWithoutNeed();
        rowWithoutOut();
        rowWithoutIn();
        begunIfInIsNotBehindNow();
        unknownHasNotBegun();
        staysOneToEight();
        notPutWhileUnknown();
        CHECK.end();
    }

    /** "MINUTES are numbered 0 to 2,879": as promises 7, 9, 21, 26 and 27 ask for one. */
    private static void minutesFrom0To2879() {
        CHECK.range("7: from", 0, 2_879, 3, Scene::busy, (d, x) -> d.cone(0, x, 2_880));
        CHECK.range("9: in", 0, 2_879, 3, Scene::busy, (d, x) -> d.visit(1, 50, x, 2_880, 0));
        CHECK.range("21: minute", 0, 2_879, 3, () -> Scene.stands(2), (d, x) -> d.now(x));
        for (int x : Edge.inside(0, 2_879)) {
            CHECK.due("26: minute " + x, wholeDayCone().at(0, x, 0), -2);
            CHECK.due("27: minute " + x, Scene.stands(1).crowd(x, 50, 0), 0);
        }
        for (int x : Edge.outside(0, 2_879)) {
            CHECK.due("26: minute " + x, wholeDayCone().at(0, x, 0), NONE);
            CHECK.due("27: minute " + x, Scene.stands(1).crowd(x, 50, 0), NONE);
        }
    }

    private static ApronDesk wholeDayCone() {
        ApronDesk d = Scene.stands(1);
        d.cone(0, 0, 2_880);
        return d;
    }

    /** "a SPAN goes from a MINUTE to another one behind it .. (at most to 2,880)": promises 7 and 9. */
    private static void spanToAnotherBehindIt() {
        CHECK.range("7: behind 0", 1, 2_880, 3, Scene::busy, (d, x) -> d.cone(0, 0, x));
        CHECK.range("7: behind 600", 601, 2_880, 3, Scene::busy, (d, x) -> d.cone(0, 600, x));
        CHECK.range("7: behind 2,879", 2_880, 2_880, 3, Scene::busy, (d, x) -> d.cone(0, 2_879, x));
        CHECK.range("9: behind 0", 1, 2_880, 3, Scene::busy, (d, x) -> d.visit(1, 50, 0, x, 0));
        CHECK.range("9: behind 600", 601, 2_880, 3, Scene::busy, (d, x) -> d.visit(1, 50, 600, x, 0));
        CHECK.range("9: behind 2,879", 2_880, 2_880, 3, Scene::busy,
                (d, x) -> d.visit(1, 50, 2_879, x, 0));
        int[][] never = {{600, 600}, {601, 600}, {2_880, 2_880}, {2_880, 2_881}, {2_881, 2_880}, {-1, 0},
            {Edge.LEAST, Edge.GREATEST}, {Edge.GREATEST, Edge.LEAST}, {Edge.GREATEST, Edge.GREATEST},
            {Edge.LEAST, Edge.LEAST}, {0, 0}, {-1, 600}, {Edge.LEAST, 600}, {600, Edge.LEAST}};
        for (int[] span : never) {
            String name = span[0] + " to " + span[1];
            CHECK.refusal("7: " + name, 3, Scene::busy, d -> d.cone(0, span[0], span[1]));
            CHECK.refusal("9: " + name, 3, Scene::busy, d -> d.visit(1, 50, span[0], span[1], 0));
        }
    }

    /** "a SPAN goes .. without that": the MINUTE at its end is not of it. */
    private static void spanWithoutItsEnd() {
        ApronDesk d = Scene.allPut(1);
        d.cone(0, 300, 301);
        int[] minutes = {99, 100, 199, 200, 299, 300, 301};
        int[] due = {NONE, 0, 0, NONE, NONE, -2, NONE};
        for (int i = 0; i < minutes.length; i++) {
            CHECK.due("26: at minute " + minutes[i], d.at(0, minutes[i], 0), due[i]);
        }
        ApronDesk last = Scene.stands(1);
        last.visit(1, 50, 2_879, 2_880, 0);
        last.put(0, 0);
        CHECK.due("26: ahead of the last minute", last.at(0, 2_878, 0), NONE);
        CHECK.due("26: the last minute", last.at(0, 2_879, 0), 0);
    }

    /** "STANDS, at most 24, are numbered as they are told": promise 4, STATUS 4. */
    private static void standsAtMost24() {
        ApronDesk d = new ApronDesk();
        for (int s = 0; s < 24; s++) {
            CHECK.done("4: stand " + s, d.stand(1 + s % 5, 10 + s), d, s);
        }
        CHECK.refused("4: a 25th", d.stand(1, 50), d, 4);
        CHECK.refused("4: a 26th", d.stand(5, 200), d, 4);
        for (int s = 0; s < 24; s++) {
            CHECK.done("5: kind of " + s, d.ground(s, 0), d, 1 + s % 5);
            CHECK.done("5: size of " + s, d.ground(s, 1), d, 10 + s);
        }
        CHECK.refused("5: none was added", d.ground(24, 0), d, 1);
        CHECK.refusal("4: full", 4, Scene::fullOfStands, x -> x.stand(1, 50));
    }

    /** "each has a KIND, 1 STAND .. 5 HANGAR, and a SIZE (10 to 200)": promise 4, STATUS 3. */
    private static void kindsAndSizesOfStands() {
        CHECK.range("4: kind", 1, 5, 3, Scene::busy, (d, x) -> d.stand(x, 50));
        CHECK.range("4: size", 10, 200, 3, Scene::busy, (d, x) -> d.stand(1, x));
        for (int kind = 1; kind <= 5; kind++) {
            ApronDesk d = new ApronDesk();
            CHECK.done("4: the least", d.stand(kind, 10), d, 0);
            CHECK.done("4: the greatest", d.stand(kind, 200), d, 1);
            CHECK.done("5: kind", d.ground(1, 0), d, kind);
            CHECK.done("5: least size", d.ground(0, 1), d, 10);
            CHECK.done("5: greatest size", d.ground(1, 1), d, 200);
        }
    }

    /** "HALF of a TWIN is its SIZE by 2, rounded down": at HALF two may be there, above it not. */
    private static void halfIsRoundedDown() {
        for (int size : new int[] {20, 21, 22, 23, 99, 100, 101, 199, 200}) {
            int half = (size - size % 2) / 2;
            CHECK.due("5: both at HALF of " + size, twoAtATwin(size, half, half), 0);
            CHECK.due("5: the new one above HALF of " + size, twoAtATwin(size, half, half + 1), 5);
            CHECK.due("5: the other above HALF of " + size, twoAtATwin(size, half + 1, half), 5);
            CHECK.due("5: both above HALF of " + size, twoAtATwin(size, half + 1, half + 1), 5);
        }
    }

    private static int twoAtATwin(int size, int wingThere, int wing) {
        ApronDesk d = new ApronDesk();
        d.stand(3, size);
        d.visit(1, wingThere, 100, 200, 0);
        d.visit(1, wing, 100, 200, 0);
        d.put(0, 0);
        return d.why(1, 0);
    }

    /** "HALF of a TWIN": of a SIZE below 20 it is below the least WING, so two never fit. */
    private static void halfBelowTheLeastWing() {
        CHECK.due("5: SIZE 10", twoAtATwin(10, 10, 10), 5);
        CHECK.due("5: SIZE 19", twoAtATwin(19, 10, 10), 5);
        CHECK.due("5: SIZE 20", twoAtATwin(20, 10, 10), 0);
    }

    /** "PAIRS, at most 40": promise 6, STATUS 4; the 40th counts, what would be the 41st does not. */
    private static void pairsAtMost40() {
        ApronDesk d = Scene.visits(3);
        for (int p = 1; p < 40; p++) {
            CHECK.done("6: pair " + p, d.near(0, 1, 200, 200), d, p);
        }
        d.put(0, 0);
        CHECK.done("6: wide limits so far", d.why(1, 1), d, 0);
        CHECK.done("6: pair 40", d.near(0, 1, 0, 0), d, 40);
        CHECK.done("6: the 40th counts", d.why(1, 1), d, 3);
        CHECK.refused("6: a 41st", d.near(0, 2, 0, 0), d, 4);
        CHECK.done("6: it does not count", d.why(1, 2), d, 0);
        CHECK.refused("6: nor is there a 42nd", d.near(0, 1, 200, 200), d, 4);
        CHECK.refusal("6: full", 4, Scene::fullOfPairs, x -> x.near(0, 1, 0, 0));
    }

    /** "PAIRS .. are of two STANDS, each with a LIMIT (0 to 200)": promise 6, STATUS 3. */
    private static void limitsFrom0To200() {
        CHECK.range("6: limitA", 0, 200, 3, Scene::busy, (d, x) -> d.near(3, 4, x, 100));
        CHECK.range("6: limitB", 0, 200, 3, Scene::busy, (d, x) -> d.near(3, 4, 100, x));
        CHECK.refusal("6: both", 3, Scene::busy, d -> d.near(3, 4, Edge.LEAST, Edge.GREATEST));
    }

    /** "each with a LIMIT (0 to 200)": no WING is at most 0, none is above 200. */
    private static void limitsAtTheirEnds() {
        CHECK.due("6: 200 and 200", besides(200, 200, 200, 200), 0);
        CHECK.due("6: 199 and 200", besides(199, 200, 200, 200), 3);
        CHECK.due("6: 200 and 199", besides(200, 199, 200, 200), 3);
        CHECK.due("6: 10 and 10", besides(10, 10, 10, 10), 0);
        CHECK.due("6: 9 and 10", besides(9, 10, 10, 10), 3);
        CHECK.due("6: 10 and 9", besides(10, 9, 10, 10), 3);
        CHECK.due("6: 0 and 200", besides(0, 200, 10, 10), 3);
        CHECK.due("6: 200 and 0", besides(200, 0, 10, 10), 3);
    }

    /** What is against wingB at stand 1 while wingA is at stand 0. */
    private static int besides(int limitA, int limitB, int wingA, int wingB) {
        ApronDesk d = Scene.stands(2);
        d.near(0, 1, limitA, limitB);
        d.visit(1, wingA, 100, 200, 0);
        d.visit(1, wingB, 100, 200, 0);
        d.put(0, 0);
        return d.why(1, 1);
    }

    /** "CONES, at most 20, numbered as they are told": promise 7, STATUS 4. */
    private static void conesAtMost20() {
        ApronDesk d = Scene.visits(1);
        for (int c = 0; c < 19; c++) {
            CHECK.done("7: cone " + c, d.cone(0, 300 + c, 301 + c), d, c);
        }
        CHECK.done("7: none is there yet", d.why(0, 0), d, 0);
        CHECK.done("7: cone 19", d.cone(0, 100, 101), d, 19);
        CHECK.done("7: it counts", d.why(0, 0), d, 4);
        CHECK.because("7: by its number", d, 4, 19);
        CHECK.refused("7: a 21st", d.cone(0, 400, 401), d, 4);
        CHECK.due("7: it is not there", d.at(0, 400, 0), NONE);
        CHECK.refused("7: nor a 22nd", d.cone(0, 0, 2_880), d, 4);
        CHECK.refusal("7: full", 4, Scene::fullOfCones, x -> x.cone(0, 0, 1));
    }

    /** "TOWTIME is a number from 1 to 60": promise 8, STATUS 3; a TOW takes so long. */
    private static void towtimeFrom1To60() {
        CHECK.range("8: minutes", 1, 60, 3, Scene::busy, (d, x) -> Edge.flag(d.towtime(x)));
        for (int minutes : Edge.inside(1, 60)) {
            ApronDesk d = Scene.stands(2);
            d.visit(1, 50, 100, 200, 0);
            d.put(0, 0);
            CHECK.done("8: towtime " + minutes, d.towtime(minutes), d);
            CHECK.done("8: tow", d.tow(0, 120, 1), d);
            CHECK.due("8: it ends", d.stay(0, 0, 2), 120 + minutes);
        }
    }

    /** "TOWTIME is a number .., 5 at first". */
    private static void towtimeIs5AtFirst() {
        ApronDesk d = Scene.stands(2);
        d.visit(1, 50, 100, 200, 0);
        d.put(0, 0);
        CHECK.done("8: tow", d.tow(0, 120, 1), d);
        CHECK.due("8: it ends", d.stay(0, 0, 2), 125);
    }

    /** "NOW is a MINUTE, 0 at first": what comes at 0 has BEGUN, what comes at 1 has not. */
    private static void nowIs0AtFirst() {
        ApronDesk d = Scene.stands(2);
        d.visit(1, 50, 0, 200, 0);
        d.visit(1, 50, 1, 200, 0);
        CHECK.refused("12: IN 0", d.put(0, 0), d, 7);
        CHECK.done("12: IN 1", d.put(1, 1), d);
        CHECK.due("22: one waits", d.waiting(), 1);
        CHECK.refused("21: below", d.now(-1), d, 3);
        CHECK.done("21: 0", d.now(0), d, 1);
        CHECK.stays(d, 0, 0, 0, 200);
    }

    /** "VISITS, at most 40, are numbered as they are told": promise 9, STATUS 4. */
    private static void visitsAtMost40() {
        ApronDesk d = Scene.stands(1);
        for (int v = 0; v < 40; v++) {
            CHECK.done("9: visit " + v, d.visit(1, 10 + v, 10 * v + 10, 10 * v + 20, v % 3), d, v);
        }
        CHECK.refused("9: a 41st", d.visit(1, 50, 10, 20, 0), d, 4);
        for (int v = 0; v < 40; v++) {
            CHECK.done("11: wing of " + v, d.told(v, 1), d, 10 + v);
            CHECK.done("11: need of " + v, d.told(v, 4), d, v % 3);
        }
        CHECK.refused("11: none was added", d.told(40, 0), d, 2);
        CHECK.done("12: the 40th can be PUT", d.put(39, 0), d);
        CHECK.stays(d, 39, 0, 400, 410);
        CHECK.refusal("9: full", 4, Scene::fullOfVisits, x -> x.visit(1, 50, 300, 400, 0));
    }

    /** "a ROW of five numbers: 0 KIND (1 .. 4), 1 WING (10 to 200), .. 4 NEED (0 .. 2)": promise 9. */
    private static void rowsOfVisits() {
        CHECK.range("9: kind", 1, 4, 3, Scene::busy, (d, x) -> d.visit(x, 50, 300, 400, 0));
        CHECK.range("9: wing", 10, 200, 3, Scene::busy, (d, x) -> d.visit(1, x, 300, 400, 0));
        CHECK.range("9: need", 0, 2, 3, Scene::busy, (d, x) -> d.visit(1, 50, 300, 400, x));
        int[][] rows = {{1, 10, 0, 1, 0}, {4, 200, 2_879, 2_880, 2}, {2, 11, 0, 2_880, 1}};
        for (int[] row : rows) {
            ApronDesk d = new ApronDesk();
            CHECK.done("9: a row", d.visit(row[0], row[1], row[2], row[3], row[4]), d, 0);
            for (int k = 0; k < 5; k++) {
                CHECK.done("11: number " + k, d.told(0, k), d, row[k]);
            }
        }
    }

    private static ApronDesk torn(int numbers) {
        ApronDesk d = new ApronDesk();
        d.stand(2, 100);
        d.stand(5, 100);
        d.visit(1, 50, 100, 200, 2);
        d.tear(0, numbers);
        return d;
    }

    /** "One without NEED has NEED 0": with five numbers it has its own, with four none. */
    private static void rowWithoutNeed() {
        CHECK.due("10: five numbers, NEED 2 at a BRIDGE", torn(5).why(0, 0), 2);
        CHECK.due("10: four numbers at a BRIDGE", torn(4).why(0, 0), 0);
        CHECK.due("10: four numbers at a HANGAR", torn(4).why(0, 1), 0);
    }

    /** "one without OUT is there till 2,880": with four numbers it has its own. */
    private static void rowWithoutOut() {
        int[] due = {NONE, NONE, NONE, 2_880, 200};
        for (int numbers = 3; numbers <= 4; numbers++) {
            ApronDesk d = torn(numbers);
            CHECK.done("12: " + numbers + " numbers", d.put(0, 0), d);
            CHECK.stays(d, 0, 0, 100, due[numbers]);
            CHECK.due("26: the last minute", d.at(0, 2_879, 0), numbers == 3 ? 0 : NONE);
        }
    }

    /** "one that has not its IN is UNKNOWN": with three numbers it is not, with two, one, none it is. */
    private static void rowWithoutIn() {
        for (int numbers = 0; numbers <= 5; numbers++) {
            ApronDesk d = torn(numbers);
            if (numbers < 3) {
                CHECK.refused("13: " + numbers + " numbers", d.why(0, 1), d, 5);
            } else {
                CHECK.done("13: " + numbers + " numbers", d.why(0, 1), d, 0);
            }
        }
    }

    /** "It has BEGUN, if IN is not behind NOW": IN 100 at 99, at 100 and at 101. */
    private static void begunIfInIsNotBehindNow() {
        for (int now = 99; now <= 101; now++) {
            ApronDesk d = Scene.allPut(1);
            d.now(now);
            if (now < 100) {
                CHECK.done("14: not yet", d.off(0), d);
            } else {
                CHECK.refused("14: BEGUN at " + now, d.off(0), d, 7);
            }
        }
    }

    /** "one that has not its IN is UNKNOWN", so it has not BEGUN, whatever its IN was. */
    private static void unknownHasNotBegun() {
        ApronDesk d = Scene.visits(1);
        d.tear(0, 2);
        CHECK.done("21: now(150)", d.now(150), d, 0);
        CHECK.due("22: it does not wait", d.waiting(), 0);
        CHECK.refused("12: UNKNOWN, not BEGUN", d.put(0, 0), d, 5);
    }

    /** "A VISIT is PUT, if it has STAYS, one to eight, in order": promises 15, 24, 25. */
    private static void staysOneToEight() {
        ApronDesk d = Scene.stands(2);
        d.visit(1, 50, 100, 1_000, 0);
        CHECK.done("24: none", d.stays(0), d, 0);
        CHECK.refused("14: without a STAY it is not PUT", d.off(0), d, 6);
        d.put(0, 0);
        for (int k = 1; k < 8; k++) {
            CHECK.done("24: so many", d.stays(0), d, k);
            CHECK.done("15: one more", d.tow(0, 100 + 10 * k, k % 2), d);
        }
        CHECK.done("24: eight", d.stays(0), d, 8);
        CHECK.refused("15: a ninth", d.tow(0, 500, 0), d, 4);
        for (int k = 0; k < 8; k++) {
            CHECK.done("25: stand of " + k, d.stay(0, k, 0), d, k % 2);
            CHECK.done("25: begin of " + k, d.stay(0, k, 1), d, 100 + 10 * k);
            CHECK.done("25: end of " + k, d.stay(0, k, 2), d, k == 7 ? 1_000 : 115 + 10 * k);
        }
        CHECK.refusal("15: eight already", 4, Scene::eightStays, x -> Edge.flag(x.tow(0, 500, 2)));
        CHECK.done("14: all eight go", d.off(0), d);
        CHECK.done("24: none again", d.stays(0), d, 0);
    }

    /** "not while it is UNKNOWN": no call puts it. */
    private static void notPutWhileUnknown() {
        for (int numbers = 0; numbers <= 2; numbers++) {
            ApronDesk d = Scene.visits(2);
            d.tear(0, numbers);
            d.put(1, 1);
            CHECK.refused("12: put", d.put(0, 0), d, 5);
            CHECK.done("16: plan", d.plan(), d, 0);
            CHECK.done("17: search", d.search(), d, 0);
            CHECK.done("18: most", d.most(), d, 0);
            CHECK.refused("23: swap", d.swap(0, 1), d, 5);
            CHECK.refused("15: tow", d.tow(0, 150, 1), d, 6);
            CHECK.refused("19: late", d.late(0, 300), d, 3);
            CHECK.done("21: now", d.now(100), d, 0);
            CHECK.stays(d, 0, NONE, 0, 0);
        }
    }
}
