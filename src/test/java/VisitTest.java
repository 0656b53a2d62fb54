/** Promises 9 to 11: visit, tear, told. */
public final class VisitTest {
    private static final Check CHECK = new Check();
    private static final int NONE = ApronDesk.NONE;
    private static final int LEAST = Integer.MIN_VALUE;
    private static final int GREATEST = Integer.MAX_VALUE;

    public static void main(String[] args) {
        wrongRows();
        asManyAsThereMayBe();
        tear();
        whatIsTornIsMissing();
        told();
        CHECK.end();
    }

    private static void wrongRows() {
        ApronDesk d = new ApronDesk();
        CHECK.refused("9: kind 0", d.visit(0, 50, 10, 20, 0), d, 3);
        CHECK.refused("9: kind 5", d.visit(5, 50, 10, 20, 0), d, 3);
        CHECK.refused("9: wing 9", d.visit(1, 9, 10, 20, 0), d, 3);
        CHECK.refused("9: wing 201", d.visit(1, 201, 10, 20, 0), d, 3);
        CHECK.refused("9: in -1", d.visit(1, 50, -1, 20, 0), d, 3);
        CHECK.refused("9: in 2880", d.visit(1, 50, 2880, 2880, 0), d, 3);
        CHECK.refused("9: out is in", d.visit(1, 50, 20, 20, 0), d, 3);
        CHECK.refused("9: out 2881", d.visit(1, 50, 20, 2881, 0), d, 3);
        CHECK.refused("9: need -1", d.visit(1, 50, 10, 20, -1), d, 3);
        CHECK.refused("9: need 3", d.visit(1, 50, 10, 20, 3), d, 3);
        CHECK.refused("9: far off", d.visit(LEAST, GREATEST, LEAST, GREATEST, LEAST), d, 3);
        CHECK.refused("9: none was told", d.stays(0), d, 2);
    }

    private static void asManyAsThereMayBe() {
        ApronDesk d = new ApronDesk();
        CHECK.done("9: the widest", d.visit(4, 200, 0, 2880, 2), d, 0);
        CHECK.done("9: the least", d.visit(1, 10, 2879, 2880, 0), d, 1);
        for (int v = 2; v < 40; v++) {
            CHECK.done("9: visit " + v, d.visit(1 + v % 4, 50 + v, v, 100 + v, v % 3), d, v);
        }
        CHECK.refused("9: the 41st", d.visit(1, 50, 10, 20, 0), d, 4);
        CHECK.refused("9: the 41st that can't be", d.visit(1, 50, 20, 10, 0), d, 3);
        CHECK.due("9: kind of the last", d.told(39, 0), 4);
        CHECK.due("9: wing of the last", d.told(39, 1), 89);
        CHECK.due("9: in of the last", d.told(39, 2), 39);
        CHECK.due("9: out of the last", d.told(39, 3), 139);
        CHECK.due("9: need of the last", d.told(39, 4), 0);
        CHECK.due("9: out of the first", d.told(0, 3), 2880);
    }

    private static void tear() {
        ApronDesk d = new ApronDesk();
        d.stand(1, 50);
        d.visit(1, 50, 10, 20, 0);
        CHECK.refused("10: tear(1, 0)", d.tear(1, 0), d, 2);
        CHECK.refused("10: tear(-1, 9)", d.tear(-1, 9), d, 2);
        CHECK.refused("10: tear(0, -1)", d.tear(0, -1), d, 3);
        CHECK.refused("10: tear(0, 6)", d.tear(0, 6), d, 3);
        CHECK.done("10: tear(0, 5)", d.tear(0, 5), d);
        d.put(0, 0);
        CHECK.refused("10: tear(0, 6) of one that is PUT", d.tear(0, 6), d, 3);
        CHECK.refused("10: tear(0, 4) of one that is PUT", d.tear(0, 4), d, 6);
        CHECK.due("10: nothing was torn", d.told(0, 4), 0);
        d.off(0);
        CHECK.done("10: tear(0, 3)", d.tear(0, 3), d);
        CHECK.refused("10: tear(0, 4) does not mend", d.tear(0, 4), d, 3);
        CHECK.done("10: tear(0, 0)", d.tear(0, 0), d);
        CHECK.refused("10: tear(0, 1)", d.tear(0, 1), d, 3);
        d.visit(1, 50, 5, 20, 0);
        d.now(7);
        d.visit(1, 50, 5, 20, 0);
        CHECK.done("10: one that has BEGUN", d.tear(2, 4), d);
    }

    private static void whatIsTornIsMissing() {
        ApronDesk d = new ApronDesk();
        d.stand(1, 50);
        d.visit(1, 50, 100, 200, 2);
        CHECK.done("10: why(0, 0) with NEED", d.why(0, 0), d, 2);
        d.tear(0, 4);
        CHECK.done("10: why(0, 0) without NEED", d.why(0, 0), d, 0);
        d.tear(0, 3);
        CHECK.done("10: put(0, 0) without OUT", d.put(0, 0), d);
        CHECK.stays(d, 0, 0, 100, 2880);
        d.off(0);
        d.tear(0, 2);
        CHECK.refused("10: why(0, 0) without IN", d.why(0, 0), d, 5);
        CHECK.refused("10: put(0, 0) without IN", d.put(0, 0), d, 5);
        CHECK.done("10: plan() passes it over", d.plan(), d, 0);
        CHECK.done("10: search() passes it over", d.search(), d, 0);
        CHECK.done("10: now() passes it over", d.now(150), d, 0);
        CHECK.due("10: it does not wait", d.waiting(), 0);
        CHECK.stays(d, 0, NONE, 0, 0);
    }

    private static void told() {
        ApronDesk d = new ApronDesk();
        d.visit(3, 77, 15, 1600, 2);
        CHECK.done("11: told(0, 0)", d.told(0, 0), d, 3);
        CHECK.done("11: told(0, 1)", d.told(0, 1), d, 77);
        CHECK.done("11: told(0, 2)", d.told(0, 2), d, 15);
        CHECK.done("11: told(0, 3)", d.told(0, 3), d, 1600);
        CHECK.done("11: told(0, 4)", d.told(0, 4), d, 2);
        CHECK.refused("11: told(0, 5)", d.told(0, 5), d, 3);
        CHECK.refused("11: told(0, -1)", d.told(0, -1), d, 3);
        CHECK.refused("11: told(1, -1)", d.told(1, -1), d, 2);
        CHECK.refused("11: told(least, 0)", d.told(LEAST, 0), d, 2);
        CHECK.refused("11: told(0, greatest)", d.told(0, GREATEST), d, 3);
        d.tear(0, 1);
        CHECK.done("11: told(0, 0) of a torn ROW", d.told(0, 0), d, 3);
        CHECK.refused("11: told(0, 1) of a torn ROW", d.told(0, 1), d, 3);
        d.tear(0, 0);
        CHECK.refused("11: told(0, 0) of an empty ROW", d.told(0, 0), d, 3);
    }
}
