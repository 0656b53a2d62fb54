/** Promises 1 to 8: a new object, status, reason, stand, ground, near, cone, towtime. */
public final class GroundTest {
    private static final Check CHECK = new Check();
    private static final int NONE = ApronDesk.NONE;
    private static final int LEAST = Integer.MIN_VALUE;
    private static final int GREATEST = Integer.MAX_VALUE;

    public static void main(String[] args) {
        newObject();
        status();
        reason();
        stand();
        ground();
        near();
        cone();
        towtime();
        CHECK.end();
    }

    private static void newObject() {
        ApronDesk d = new ApronDesk();
        CHECK.due("NONE", ApronDesk.NONE, -1);
        CHECK.due("1: status()", d.status(), 0);
        CHECK.due("1: reason(0)", d.reason(0), 0);
        CHECK.due("1: reason(1)", d.reason(1), NONE);
        CHECK.due("1: waiting()", d.waiting(), 0);
        CHECK.due("1: changed(0)", d.changed(0), NONE);
        CHECK.due("1: at(0, 0, 0)", d.at(0, 0, 0), NONE);
        CHECK.due("1: crowd(0, 10, 0)", d.crowd(0, 10, 0), NONE);
        CHECK.refused("1: ground(0, 0)", d.ground(0, 0), d, 1);
        CHECK.refused("1: told(0, 0)", d.told(0, 0), d, 2);
        CHECK.done("1: plan()", d.plan(), d, 0);
        CHECK.done("1: search()", d.search(), d, 0);
        CHECK.done("1: most()", d.most(), d, 0);
        ApronDesk other = new ApronDesk();
        d.stand(1, 50);
        CHECK.refused("1: objects are apart", other.ground(0, 0), other, 1);
    }

    private static void status() {
        ApronDesk d = new ApronDesk();
        d.stand(9, 50);
        CHECK.due("2: status()", d.status(), 3);
        CHECK.due("2: status() again", d.status(), 3);
        d.reason(0);
        d.changed(0);
        d.waiting();
        d.at(0, 0, 0);
        d.crowd(0, 10, 0);
        CHECK.due("2: status() behind calls without one", d.status(), 3);
        d.plan();
        CHECK.due("2: status() behind plan()", d.status(), 0);
    }

    private static void reason() {
        ApronDesk d = new ApronDesk();
        d.stand(1, 50);
        d.stand(4, 60);
        d.visit(1, 60, 10, 20, 0);
        d.visit(1, 60, 10, 20, 0);
        d.put(0, 1);
        CHECK.hindered("3: put(1, 1)", d.put(1, 1), d, 5, 0);
        CHECK.done("3: why(1, 1)", d.why(1, 1), d, 5);
        CHECK.hindered("3: put(1, 0)", d.put(1, 0), d, 1, NONE);
        d.off(0);
        CHECK.done("3: put(1, 1) at last", d.put(1, 1), d);
        CHECK.because("3: what was done", d, 1, NONE);
        CHECK.refused("3: put(1, 5)", d.put(1, 5), d, 1);
        CHECK.because("3: another STATUS", d, 1, NONE);
        CHECK.due("3: reason(2)", d.reason(2), NONE);
        CHECK.due("3: reason(-1)", d.reason(-1), NONE);
        CHECK.due("3: reason(least)", d.reason(LEAST), NONE);
        CHECK.due("3: status() is let be", d.status(), 1);
    }

    private static void stand() {
        ApronDesk d = new ApronDesk();
        CHECK.refused("4: stand(0, 50)", d.stand(0, 50), d, 3);
        CHECK.refused("4: stand(6, 50)", d.stand(6, 50), d, 3);
        CHECK.refused("4: stand(1, 9)", d.stand(1, 9), d, 3);
        CHECK.refused("4: stand(1, 201)", d.stand(1, 201), d, 3);
        CHECK.refused("4: stand(least, greatest)", d.stand(LEAST, GREATEST), d, 3);
        for (int s = 0; s < 24; s++) {
            CHECK.done("4: stand " + s, d.stand(1 + s % 5, s % 2 == 0 ? 10 : 200), d, s);
        }
        CHECK.refused("4: the 25th", d.stand(1, 50), d, 4);
        CHECK.refused("4: the 25th that can't be", d.stand(1, 5), d, 3);
    }

    private static void ground() {
        ApronDesk d = new ApronDesk();
        d.stand(5, 10);
        d.stand(2, 200);
        CHECK.done("5: ground(0, 0)", d.ground(0, 0), d, 5);
        CHECK.done("5: ground(0, 1)", d.ground(0, 1), d, 10);
        CHECK.done("5: ground(1, 0)", d.ground(1, 0), d, 2);
        CHECK.done("5: ground(1, 1)", d.ground(1, 1), d, 200);
        CHECK.refused("5: ground(0, 2)", d.ground(0, 2), d, 3);
        CHECK.refused("5: ground(0, -1)", d.ground(0, -1), d, 3);
        CHECK.refused("5: ground(2, 0)", d.ground(2, 0), d, 1);
        CHECK.refused("5: ground(-1, 7)", d.ground(-1, 7), d, 1);
        CHECK.refused("5: ground(greatest, 0)", d.ground(GREATEST, 0), d, 1);
    }

    private static void near() {
        ApronDesk d = new ApronDesk();
        d.stand(1, 50);
        d.stand(1, 50);
        CHECK.refused("6: near(0, 2, 0, 0)", d.near(0, 2, 0, 0), d, 1);
        CHECK.refused("6: near(2, 0, 0, 0)", d.near(2, 0, 0, 0), d, 1);
        CHECK.refused("6: near(-1, -1, 0, 0)", d.near(-1, -1, 0, 0), d, 1);
        CHECK.refused("6: near(1, 1, 0, 0)", d.near(1, 1, 0, 0), d, 3);
        CHECK.refused("6: near(0, 1, -1, 0)", d.near(0, 1, -1, 0), d, 3);
        CHECK.refused("6: near(0, 1, 0, 201)", d.near(0, 1, 0, 201), d, 3);
        CHECK.refused("6: near(0, 1, 201, 0)", d.near(0, 1, 201, 0), d, 3);
        CHECK.refused("6: near(0, 1, 0, -1)", d.near(0, 1, 0, -1), d, 3);
        for (int p = 1; p <= 40; p++) {
            CHECK.done("6: pair " + p, d.near(p % 2, (p + 1) % 2, 200, 0), d, p);
        }
        CHECK.refused("6: the 41st", d.near(0, 1, 0, 0), d, 4);
        CHECK.refused("6: the 41st that can't be", d.near(0, 0, 0, 0), d, 3);
        staysThatAreThereStay();
    }

    private static void staysThatAreThereStay() {
        ApronDesk d = new ApronDesk();
        d.stand(1, 50);
        d.stand(1, 50);
        d.visit(1, 50, 10, 20, 0);
        d.visit(1, 50, 10, 20, 0);
        d.put(0, 0);
        d.put(1, 1);
        CHECK.done("6: near() where STAYS are", d.near(0, 1, 0, 0), d, 1);
        CHECK.done("7: cone() where a STAY is", d.cone(0, 5, 15), d, 0);
        CHECK.stays(d, 0, 0, 10, 20);
        CHECK.stays(d, 1, 1, 10, 20);
        CHECK.done("6: why(0, 0)", d.why(0, 0), d, 3);
        d.off(1);
        CHECK.done("7: why(0, 0)", d.why(0, 0), d, 4);
    }

    private static void cone() {
        ApronDesk d = new ApronDesk();
        d.stand(1, 50);
        CHECK.refused("7: cone(1, 0, 1)", d.cone(1, 0, 1), d, 1);
        CHECK.refused("7: cone(-1, 5, 1)", d.cone(-1, 5, 1), d, 1);
        CHECK.refused("7: cone(0, 5, 5)", d.cone(0, 5, 5), d, 3);
        CHECK.refused("7: cone(0, -1, 5)", d.cone(0, -1, 5), d, 3);
        CHECK.refused("7: cone(0, 0, 2881)", d.cone(0, 0, 2881), d, 3);
        CHECK.refused("7: cone(0, 2880, 2880)", d.cone(0, 2880, 2880), d, 3);
        CHECK.refused("7: cone(0, least, greatest)", d.cone(0, LEAST, GREATEST), d, 3);
        CHECK.done("7: the last minute", d.cone(0, 2879, 2880), d, 0);
        CHECK.done("7: the first minute", d.cone(0, 0, 1), d, 1);
        for (int c = 2; c < 20; c++) {
            CHECK.done("7: cone " + c, d.cone(0, 10 * c, 10 * c + 5), d, c);
        }
        CHECK.refused("7: the 21st", d.cone(0, 0, 2880), d, 4);
        CHECK.refused("7: the 21st that can't be", d.cone(0, 1, 0), d, 3);
        CHECK.due("7: at(0, 0, 0)", d.at(0, 0, 0), -2);
        CHECK.due("7: at(0, 1, 0)", d.at(0, 1, 0), NONE);
        CHECK.due("7: at(0, 2879, 0)", d.at(0, 2879, 0), -2);
        CHECK.due("7: at(0, 24, 0)", d.at(0, 24, 0), -2);
        CHECK.due("7: at(0, 25, 0)", d.at(0, 25, 0), NONE);
    }

    private static void towtime() {
        ApronDesk d = new ApronDesk();
        CHECK.refused("8: towtime(0)", d.towtime(0), d, 3);
        CHECK.refused("8: towtime(61)", d.towtime(61), d, 3);
        CHECK.refused("8: towtime(least)", d.towtime(LEAST), d, 3);
        d.stand(1, 50);
        d.stand(1, 50);
        d.visit(1, 50, 10, 500, 0);
        d.put(0, 0);
        CHECK.done("8: tow(0, 50, 1)", d.tow(0, 50, 1), d);
        CHECK.due("8: five at first", d.stay(0, 0, 2), 55);
        CHECK.done("8: towtime(60)", d.towtime(60), d);
        CHECK.done("8: tow(0, 100, 0)", d.tow(0, 100, 0), d);
        CHECK.due("8: then sixty", d.stay(0, 1, 2), 160);
        CHECK.refused("8: towtime(-3)", d.towtime(-3), d, 3);
        CHECK.done("8: tow(0, 200, 1)", d.tow(0, 200, 1), d);
        CHECK.due("8: still sixty", d.stay(0, 2, 2), 260);
        CHECK.done("8: towtime(1)", d.towtime(1), d);
        CHECK.done("8: tow(0, 498, 0)", d.tow(0, 498, 0), d);
        CHECK.due("8: then one", d.stay(0, 3, 2), 499);
    }
}
