/** Promises 14, 15, 23 to 27: off, tow, swap, stays, stay, at, crowd. */
public final class StayTest {
    private static final Check CHECK = new Check();
    private static final int NONE = ApronDesk.NONE;
    private static final int LEAST = Integer.MIN_VALUE;
    private static final int GREATEST = Integer.MAX_VALUE;

    public static void main(String[] args) {
        off();
        offTakesAllStays();
        towIsRefused();
        tow();
        towOfATornRow();
        towLooksAtTheNewStayAlone();
        towOfOneThatHasBegun();
        eightStays();
        swapIsRefused();
        swap();
        swapIsHindered();
        neighbourAfterTheFirstIsThere();
        swapAtOneStand();
        stays();
        at();
        atOfOneTowedBack();
        crowd();
        CHECK.end();
    }

    private static ApronDesk deskWithStands(int count) {
        ApronDesk d = new ApronDesk();
        for (int s = 0; s < count; s++) {
            d.stand(1, 100);
        }
        return d;
    }

    private static void off() {
        ApronDesk d = deskWithStands(1);
        d.visit(1, 50, 100, 200, 0);
        d.visit(1, 50, 100, 200, 0);
        d.tear(1, 0);
        CHECK.refused("14: off(2)", d.off(2), d, 2);
        CHECK.refused("14: off(-1)", d.off(-1), d, 2);
        CHECK.refused("14: off(0), not PUT", d.off(0), d, 6);
        CHECK.refused("14: off(1), UNKNOWN", d.off(1), d, 6);
        d.put(0, 0);
        CHECK.done("14: off(0)", d.off(0), d);
        CHECK.stays(d, 0, NONE, 0, 0);
        CHECK.due("14: the stand is free", d.at(0, 150, 0), NONE);
        d.put(0, 0);
        d.now(100);
        CHECK.refused("14: off(0), BEGUN", d.off(0), d, 7);
        CHECK.stays(d, 0, 0, 100, 200);
        d.visit(1, 50, 100, 200, 0);
        CHECK.refused("14: off(2), BEGUN and not PUT", d.off(2), d, 6);
    }

    private static void offTakesAllStays() {
        ApronDesk d = deskWithStands(2);
        d.visit(1, 50, 100, 200, 0);
        d.put(0, 0);
        d.tow(0, 150, 1);
        CHECK.done("14: off(0) of two STAYS", d.off(0), d);
        CHECK.due("14: stand 0 is free", d.at(0, 120, 0), NONE);
        CHECK.due("14: stand 1 is free", d.at(1, 180, 0), NONE);
        d.put(0, 1);
        CHECK.stays(d, 0, 1, 100, 200);
    }

    private static void towIsRefused() {
        ApronDesk d = deskWithStands(3);
        d.visit(1, 50, 100, 200, 0);
        d.visit(1, 50, 100, 200, 0);
        d.visit(1, 50, 100, 200, 0);
        d.tear(2, 1);
        d.put(0, 0);
        CHECK.refused("15: no such STAND nor VISIT", d.tow(7, 150, 3), d, 1);
        CHECK.refused("15: no such VISIT", d.tow(3, 150, 1), d, 2);
        CHECK.refused("15: not PUT, ahead of 3", d.tow(1, LEAST, 1), d, 6);
        CHECK.refused("15: UNKNOWN is not PUT", d.tow(2, 150, 1), d, 6);
        CHECK.refused("15: at this STAND", d.tow(0, 150, 0), d, 3);
        CHECK.refused("15: at its begin", d.tow(0, 100, 1), d, 3);
        CHECK.refused("15: ahead of its begin", d.tow(0, 99, 1), d, 3);
        CHECK.refused("15: its end is OUT", d.tow(0, 195, 1), d, 3);
        CHECK.refused("15: far behind", d.tow(0, GREATEST, 1), d, 3);
        CHECK.refused("15: far ahead", d.tow(0, LEAST, 1), d, 3);
        d.now(120);
        CHECK.refused("15: at NOW", d.tow(0, 120, 1), d, 3);
        CHECK.refused("15: ahead of NOW", d.tow(0, 110, 1), d, 3);
        CHECK.stays(d, 0, 0, 100, 200);
        CHECK.done("15: behind NOW", d.tow(0, 121, 2), d);
    }

    private static void tow() {
        ApronDesk d = deskWithStands(2);
        d.visit(1, 50, 100, 200, 0);
        d.put(0, 0);
        CHECK.done("15: just ahead of the end", d.tow(0, 194, 1), d);
        CHECK.done("15: stays(0)", d.stays(0), d, 2);
        CHECK.due("15: first stand", d.stay(0, 0, 0), 0);
        CHECK.due("15: first from", d.stay(0, 0, 1), 100);
        CHECK.due("15: first end", d.stay(0, 0, 2), 199);
        CHECK.due("15: second stand", d.stay(0, 1, 0), 1);
        CHECK.due("15: second from", d.stay(0, 1, 1), 194);
        CHECK.due("15: second end", d.stay(0, 1, 2), 200);
        CHECK.due("15: counted at the old stand", d.at(0, 198, 0), 0);
        CHECK.due("15: and at the new one", d.at(1, 194, 0), 0);
        CHECK.due("15: gone from the old stand", d.at(0, 199, 0), NONE);
        d.visit(1, 50, 198, 250, 0);
        CHECK.hindered("15: others see the old stand", d.put(1, 0), d, 5, 0);
        CHECK.hindered("15: and the new one", d.put(1, 1), d, 5, 0);
    }

    private static void towOfATornRow() {
        ApronDesk d = deskWithStands(2);
        d.visit(1, 50, 100, 200, 0);
        d.tear(0, 3);
        d.put(0, 0);
        CHECK.refused("15: OUT is 2,880", d.tow(0, 2875, 1), d, 3);
        CHECK.done("15: ahead of that", d.tow(0, 2874, 1), d);
        CHECK.due("15: till 2,880", d.stay(0, 1, 2), 2880);
    }

    private static void towLooksAtTheNewStayAlone() {
        ApronDesk d = deskWithStands(3);
        d.stand(1, 40);
        d.near(0, 1, 0, 0);
        d.visit(1, 50, 100, 300, 0);
        d.visit(1, 50, 100, 150, 0);
        d.visit(1, 50, 250, 400, 0);
        d.put(0, 0);
        d.put(1, 2);
        d.put(2, 2);
        CHECK.hindered("15: something is against it", d.tow(0, 160, 2), d, 5, 2);
        CHECK.stays(d, 0, 0, 100, 300);
        CHECK.hindered("15: it is too wide", d.tow(0, 160, 3), d, 1, NONE);
        d.off(2);
        CHECK.hindered("15: the span is till OUT from the minute", d.tow(0, 149, 2), d, 5, 1);
        d.cone(0, 100, 110);
        CHECK.done("15: to its own neighbour stand", d.tow(0, 150, 1), d);
        CHECK.done("15: back again while its tow lasts", d.tow(0, 151, 0), d);
        CHECK.due("15: three stays", d.stays(0), 3);
        CHECK.due("15: the middle one", d.stay(0, 1, 2), 156);
    }

    private static void towOfOneThatHasBegun() {
        ApronDesk d = deskWithStands(2);
        d.stand(2, 100);
        d.visit(4, 50, 100, 1500, 0);
        d.now(200);
        CHECK.stays(d, 0, 0, 200, 1500);
        CHECK.hindered("15: a SLEEPER by night", d.tow(0, 1000, 2), d, 2, NONE);
        CHECK.done("15: one that has BEGUN", d.tow(0, 201, 1), d);
        CHECK.due("15: its first stay", d.stay(0, 0, 2), 206);
    }

    private static void eightStays() {
        ApronDesk d = deskWithStands(2);
        d.visit(1, 50, 100, 1000, 0);
        d.put(0, 0);
        for (int k = 1; k < 8; k++) {
            CHECK.done("15: tow " + k, d.tow(0, 100 + 10 * k, k % 2), d);
        }
        CHECK.due("15: eight", d.stays(0), 8);
        CHECK.refused("15: the ninth", d.tow(0, 300, 0), d, 4);
        CHECK.refused("15: the ninth that can't be", d.tow(0, 300, 1), d, 3);
        CHECK.due("15: eight still", d.stays(0), 8);
        CHECK.due("15: the last one", d.stay(0, 7, 2), 1000);
    }

    private static void swapIsRefused() {
        ApronDesk d = deskWithStands(3);
        for (int v = 0; v < 5; v++) {
            d.visit(1, 50, 100 + v, 200, 0);
        }
        d.put(0, 0);
        d.put(1, 1);
        d.tear(2, 2);
        CHECK.refused("23: swap(5, 0)", d.swap(5, 0), d, 2);
        CHECK.refused("23: swap(0, -1)", d.swap(0, -1), d, 2);
        CHECK.refused("23: swap(1, 1)", d.swap(1, 1), d, 2);
        CHECK.refused("23: swap(2, 2)", d.swap(2, 2), d, 2);
        CHECK.refused("23: swap(2, 0)", d.swap(2, 0), d, 5);
        CHECK.refused("23: swap(0, 2)", d.swap(0, 2), d, 5);
        CHECK.refused("23: swap(3, 2)", d.swap(3, 2), d, 5);
        CHECK.refused("23: swap(3, 0)", d.swap(3, 0), d, 6);
        CHECK.refused("23: swap(0, 3)", d.swap(0, 3), d, 6);
        d.tow(1, 150, 2);
        CHECK.refused("23: swap(0, 1) with two STAYS", d.swap(0, 1), d, 6);
        CHECK.refused("23: swap(1, 0) with two STAYS", d.swap(1, 0), d, 6);
        d.off(1);
        d.put(1, 1);
        d.now(100);
        CHECK.refused("23: swap(0, 1), BEGUN", d.swap(0, 1), d, 7);
        CHECK.refused("23: swap(1, 0), BEGUN", d.swap(1, 0), d, 7);
        CHECK.refused("23: swap(0, 3), BEGUN and not PUT", d.swap(0, 3), d, 6);
        CHECK.stays(d, 0, 0, 100, 200);
        CHECK.stays(d, 1, 1, 101, 200);
    }

    private static void swap() {
        ApronDesk d = deskWithStands(2);
        d.visit(1, 50, 100, 200, 0);
        d.visit(1, 50, 150, 260, 0);
        d.put(0, 0);
        d.put(1, 1);
        CHECK.done("23: swap(0, 1)", d.swap(0, 1), d);
        CHECK.stays(d, 0, 1, 100, 200);
        CHECK.stays(d, 1, 0, 150, 260);
        CHECK.done("23: swap(1, 0)", d.swap(1, 0), d);
        CHECK.stays(d, 0, 0, 100, 200);
        CHECK.stays(d, 1, 1, 150, 260);
    }

    private static void swapIsHindered() {
        ApronDesk d = deskWithStands(1);
        d.stand(1, 60);
        d.visit(1, 100, 100, 200, 0);
        d.visit(1, 50, 100, 200, 0);
        d.visit(1, 50, 200, 300, 0);
        d.visit(1, 50, 200, 300, 0);
        d.put(0, 0);
        d.put(1, 1);
        CHECK.hindered("23: the first can't be there", d.swap(0, 1), d, 1, NONE);
        CHECK.hindered("23: the second can't be there", d.swap(1, 0), d, 1, NONE);
        CHECK.stays(d, 0, 0, 100, 200);
        CHECK.stays(d, 1, 1, 100, 200);
        d.put(2, 0);
        d.put(3, 1);
        CHECK.hindered("23: taken by another", d.swap(2, 1), d, 5, 3);
        CHECK.hindered("23: the second is taken", d.swap(1, 2), d, 5, 0);
        CHECK.hindered("23: each with its own span", d.swap(0, 3), d, 1, NONE);
        CHECK.hindered("23: a CONE at one's own time", swapWithCone(), coneDesk, 4, 0);
        CHECK.stays(d, 1, 1, 100, 200);
        CHECK.stays(d, 2, 0, 200, 300);
        CHECK.due("23: none is away any more", d.why(3, 0), 5);
    }

    private static ApronDesk coneDesk;

    /** The cone is there while the first one is, but not while the second one is. */
    private static boolean swapWithCone() {
        coneDesk = deskWithStands(2);
        coneDesk.visit(1, 50, 100, 120, 0);
        coneDesk.visit(1, 50, 200, 220, 0);
        coneDesk.put(0, 0);
        coneDesk.put(1, 1);
        coneDesk.cone(1, 110, 115);
        return coneDesk.swap(0, 1);
    }

    private static void neighbourAfterTheFirstIsThere() {
        ApronDesk d = deskWithStands(2);
        d.near(0, 1, 60, 80);
        d.visit(1, 60, 100, 200, 0);
        d.visit(1, 80, 100, 200, 0);
        d.put(0, 0);
        d.put(1, 1);
        CHECK.hindered("23: the first one there hinders", d.swap(0, 1), d, 3, 0);
        CHECK.hindered("23: the other way", d.swap(1, 0), d, 3, 1);
        CHECK.stays(d, 0, 0, 100, 200);
        CHECK.stays(d, 1, 1, 100, 200);
    }

    private static void swapAtOneStand() {
        ApronDesk d = deskWithStands(1);
        d.visit(1, 50, 100, 200, 0);
        d.visit(1, 50, 200, 300, 0);
        d.put(0, 0);
        d.put(1, 0);
        CHECK.done("23: both at one STAND", d.swap(0, 1), d);
        CHECK.stays(d, 0, 0, 100, 200);
        CHECK.stays(d, 1, 0, 200, 300);
        d.cone(0, 250, 260);
        CHECK.hindered("23: a CONE that came later", d.swap(0, 1), d, 4, 0);
    }

    private static void stays() {
        ApronDesk d = deskWithStands(2);
        d.visit(1, 50, 100, 200, 0);
        CHECK.done("24: stays(0)", d.stays(0), d, 0);
        CHECK.refused("24: stays(1)", d.stays(1), d, 2);
        CHECK.refused("24: stays(-1)", d.stays(-1), d, 2);
        CHECK.refused("25: stay(0, 0, 0) of none", d.stay(0, 0, 0), d, 3);
        d.put(0, 1);
        CHECK.done("24: stays(0) when PUT", d.stays(0), d, 1);
        CHECK.done("25: stay(0, 0, 0)", d.stay(0, 0, 0), d, 1);
        CHECK.done("25: stay(0, 0, 1)", d.stay(0, 0, 1), d, 100);
        CHECK.done("25: stay(0, 0, 2)", d.stay(0, 0, 2), d, 200);
        CHECK.refused("25: stay(0, 0, 3)", d.stay(0, 0, 3), d, 3);
        CHECK.refused("25: stay(0, 0, -1)", d.stay(0, 0, -1), d, 3);
        CHECK.refused("25: stay(0, 1, 0)", d.stay(0, 1, 0), d, 3);
        CHECK.refused("25: stay(0, -1, 0)", d.stay(0, -1, 0), d, 3);
        CHECK.refused("25: stay(1, -1, 9)", d.stay(1, -1, 9), d, 2);
        CHECK.refused("25: stay(least, 0, 0)", d.stay(LEAST, 0, 0), d, 2);
        CHECK.refused("25: stay(0, greatest, 0)", d.stay(0, GREATEST, 0), d, 3);
    }

    private static void at() {
        ApronDesk d = new ApronDesk();
        d.stand(3, 100);
        d.stand(1, 100);
        d.visit(1, 50, 100, 200, 0);
        d.visit(1, 50, 150, 250, 0);
        d.put(1, 0);
        d.put(0, 0);
        CHECK.due("26: at(0, 99, 0)", d.at(0, 99, 0), NONE);
        CHECK.due("26: at(0, 100, 0)", d.at(0, 100, 0), 0);
        CHECK.due("26: at(0, 100, 1)", d.at(0, 100, 1), NONE);
        CHECK.due("26: at(0, 199, 0)", d.at(0, 199, 0), 0);
        CHECK.due("26: at(0, 199, 1)", d.at(0, 199, 1), 1);
        CHECK.due("26: at(0, 199, 2)", d.at(0, 199, 2), NONE);
        CHECK.due("26: at(0, 200, 0)", d.at(0, 200, 0), 1);
        CHECK.due("26: at(0, 250, 0)", d.at(0, 250, 0), NONE);
        d.cone(0, 160, 300);
        CHECK.due("26: the minute ahead of the cone", d.at(0, 159, 2), NONE);
        CHECK.due("26: a visit ahead of a cone", d.at(0, 160, 1), 1);
        CHECK.due("26: no third, but a cone", d.at(0, 160, 2), -2);
        CHECK.due("26: a cone alone", d.at(0, 299, 0), -2);
        CHECK.due("26: behind the cone", d.at(0, 300, 0), NONE);
        CHECK.due("26: another stand", d.at(1, 160, 0), NONE);
        CHECK.due("26: k below 0", d.at(0, 260, -1), NONE);
        CHECK.due("26: k far off", d.at(0, 260, GREATEST), -2);
        CHECK.due("26: no such stand", d.at(2, 260, 0), NONE);
        CHECK.due("26: no such stand below", d.at(-1, 260, 0), NONE);
        CHECK.due("26: no such minute", d.at(0, 2880, 0), NONE);
        CHECK.due("26: no such minute below", d.at(0, -1, 0), NONE);
        CHECK.due("26: far off", d.at(LEAST, GREATEST, LEAST), NONE);
        d.stand(9, 9);
        d.at(0, 160, 0);
        d.at(9, 9, 9);
        CHECK.due("26: no STATUS", d.status(), 3);
    }

    private static void atOfOneTowedBack() {
        ApronDesk d = deskWithStands(2);
        d.visit(1, 50, 100, 200, 0);
        d.put(0, 0);
        d.tow(0, 150, 1);
        d.tow(0, 151, 0);
        CHECK.due("26: two stays, one visit", d.at(0, 153, 0), 0);
        CHECK.due("26: no second", d.at(0, 153, 1), NONE);
    }

    private static void free(ApronDesk d, int minute, int wing, int[] stands) {
        for (int k = 0; k < stands.length; k++) {
            String call = "27: crowd(" + minute + ", " + wing + ", " + k + ")";
            CHECK.due(call, d.crowd(minute, wing, k), stands[k]);
        }
    }

    private static void crowd() {
        ApronDesk d = new ApronDesk();
        d.stand(1, 60);
        d.stand(3, 100);
        d.stand(5, 80);
        d.stand(1, 200);
        d.near(2, 3, 50, 200);
        d.visit(1, 50, 100, 200, 0);
        d.visit(1, 200, 150, 250, 0);
        d.put(0, 1);
        d.put(1, 3);
        d.cone(0, 100, 120);
        free(d, 200, 70, new int[] {1, NONE});
        free(d, 180, 50, new int[] {0, 1, 2, NONE});
        free(d, 119, 50, new int[] {1, 2, 3, NONE});
        free(d, 99, 50, new int[] {0, 1, 2, 3, NONE});
        free(d, 100, 50, new int[] {1, 2, 3, NONE});
        free(d, 149, 60, new int[] {0, 2, 3, NONE});
        free(d, 150, 60, new int[] {0, NONE});
        CHECK.due("27: a TWIN that one has, above HALF", d.crowd(199, 51, 1), NONE);
        CHECK.due("27: a TWIN when it has gone", d.crowd(200, 51, 1), 1);
        CHECK.due("27: too wide for all but one", d.crowd(120, 101, 0), 3);
        CHECK.due("27: none behind", d.crowd(120, 101, 1), NONE);
        CHECK.due("27: the last minute", d.crowd(2879, 10, 3), 3);
        CHECK.due("27: minute 2880", d.crowd(2880, 10, 0), NONE);
        CHECK.due("27: minute -1", d.crowd(-1, 10, 0), NONE);
        CHECK.due("27: wing 9", d.crowd(0, 9, 0), NONE);
        CHECK.due("27: wing 200", d.crowd(0, 200, 0), 3);
        CHECK.due("27: wing 201", d.crowd(0, 201, 0), NONE);
        CHECK.due("27: k -1", d.crowd(0, 10, -1), NONE);
        CHECK.due("27: far off", d.crowd(GREATEST, LEAST, LEAST), NONE);
        d.visit(3, 50, 300, 400, 2);
        d.why(2, 1);
        free(d, 300, 80, new int[] {1, 2, 3, NONE});
        d.why(1, 0);
        d.stand(0, 0);
        d.crowd(199, 51, 0);
        CHECK.due("27: no STATUS", d.status(), 3);
        CHECK.because("27: nor REASON", d, 1, NONE);
    }
}
