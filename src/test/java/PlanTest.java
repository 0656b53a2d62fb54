/** Promises 16 to 18: plan, search, most; and the BEST STAND. */
public final class PlanTest {
    private static final Check CHECK = new Check();
    private static final int NONE = ApronDesk.NONE;

    public static void main(String[] args) {
        bestStandByKind();
        bestStandBySizeAndNumber();
        planByIn();
        planPassesOver();
        searchCountsTries();
        searchGoesBack();
        searchKeepsTheOthers();
        searchPassesOver();
        noWhole();
        most();
        mostTakesTheFirst();
        CHECK.end();
    }

    /** The kinds of stand, in the order of the numbers given, and where a visit of each kind goes. */
    private static void bestStandByKind() {
        int[] common = {2, 3, 1, 4, 5};
        for (int kind = 1; kind <= 4; kind++) {
            ApronDesk d = new ApronDesk();
            for (int s = 1; s <= 5; s++) {
                d.stand(s, 20 + s);
            }
            for (int v = 0; v < 6; v++) {
                d.visit(kind, 20, 10 + v, 100, 0);
            }
            int[] due = kind == 3 ? new int[] {4, 1, 5, 0, 0, 0} : common.clone();
            if (kind == 2) {
                due[4] = 0;
            }
            int left = kind == 3 ? 3 : kind == 2 ? 2 : 1;
            CHECK.done("16: plan() of kind " + kind, d.plan(), d, left);
            for (int v = 0; v < 5; v++) {
                CHECK.stays(d, v, due[v] - 1 < 0 ? NONE : due[v] - 1, 10 + v, 100);
            }
            CHECK.stays(d, 5, NONE, 0, 0);
        }
    }

    private static void bestStandBySizeAndNumber() {
        ApronDesk d = new ApronDesk();
        d.stand(1, 90);
        d.stand(1, 70);
        d.stand(1, 70);
        d.stand(1, 60);
        d.visit(1, 70, 10, 20, 0);
        d.visit(1, 70, 10, 20, 0);
        d.visit(1, 60, 10, 20, 0);
        d.visit(1, 60, 10, 20, 0);
        d.visit(1, 60, 10, 20, 0);
        CHECK.done("16: plan()", d.plan(), d, 1);
        int[] due = {1, 2, 3, 0, NONE};
        for (int v = 0; v < due.length; v++) {
            CHECK.stays(d, v, due[v], 10, 20);
        }
    }

    private static void planByIn() {
        ApronDesk d = new ApronDesk();
        d.stand(1, 100);
        d.visit(1, 50, 30, 100, 0);
        d.visit(1, 50, 20, 100, 0);
        d.visit(1, 50, 20, 100, 0);
        d.visit(1, 50, 90, 120, 0);
        d.visit(1, 50, 100, 120, 0);
        CHECK.done("16: plan()", d.plan(), d, 3);
        int[] due = {NONE, 0, NONE, NONE, 0};
        for (int v = 0; v < due.length; v++) {
            CHECK.stays(d, v, due[v], v == 1 ? 20 : 100, v == 1 ? 100 : 120);
        }
        CHECK.done("16: plan() again", d.plan(), d, 3);
    }

    private static void planPassesOver() {
        ApronDesk d = new ApronDesk();
        d.stand(1, 100);
        d.stand(1, 110);
        d.now(50);
        d.visit(1, 50, 50, 100, 0);
        d.visit(1, 50, 51, 100, 0);
        d.visit(1, 50, 60, 100, 0);
        d.visit(1, 50, 70, 100, 0);
        d.tear(2, 2);
        d.put(3, 0);
        d.visit(1, 50, 2000, 2100, 2);
        d.tear(4, 3);
        CHECK.done("16: plan()", d.plan(), d, 0);
        CHECK.stays(d, 0, NONE, 0, 0);
        CHECK.stays(d, 1, 1, 51, 100);
        CHECK.stays(d, 2, NONE, 0, 0);
        CHECK.stays(d, 3, 0, 70, 100);
        CHECK.stays(d, 4, 0, 2000, 2880);
    }

    private static void searchCountsTries() {
        ApronDesk d = new ApronDesk();
        d.stand(1, 50);
        d.stand(1, 50);
        d.stand(1, 50);
        d.visit(1, 50, 10, 20, 0);
        CHECK.done("17: one, at once", d.search(), d, 1);
        CHECK.stays(d, 0, 0, 10, 20);
        CHECK.done("17: none such", d.search(), d, 0);
        d.visit(1, 50, 10, 20, 0);
        d.visit(1, 50, 10, 20, 0);
        CHECK.done("17: two, with one that is PUT", d.search(), d, 5);
        CHECK.stays(d, 1, 1, 10, 20);
        CHECK.stays(d, 2, 2, 10, 20);
    }

    private static void searchGoesBack() {
        ApronDesk d = new ApronDesk();
        d.stand(1, 90);
        d.stand(1, 60);
        d.visit(1, 50, 10, 20, 0);
        d.visit(1, 80, 10, 20, 0);
        CHECK.done("17: the first has to give way", d.search(), d, 5);
        CHECK.stays(d, 0, 1, 10, 20);
        CHECK.stays(d, 1, 0, 10, 20);
    }

    private static void searchKeepsTheOthers() {
        ApronDesk d = new ApronDesk();
        d.stand(1, 90);
        d.stand(1, 90);
        d.visit(1, 50, 30, 40, 0);
        d.visit(1, 50, 10, 20, 0);
        d.visit(1, 80, 10, 35, 0);
        d.put(2, 0);
        CHECK.done("17: around one that is PUT", d.search(), d, 4);
        CHECK.stays(d, 0, 1, 30, 40);
        CHECK.stays(d, 1, 1, 10, 20);
        CHECK.stays(d, 2, 0, 10, 35);
    }

    private static void searchPassesOver() {
        ApronDesk d = new ApronDesk();
        d.stand(1, 50);
        d.now(15);
        d.visit(1, 50, 10, 20, 0);
        d.visit(1, 50, 100, 200, 0);
        d.visit(1, 50, 100, 200, 0);
        d.tear(2, 1);
        CHECK.done("17: BEGUN and UNKNOWN are left", d.search(), d, 1);
        CHECK.stays(d, 0, NONE, 0, 0);
        CHECK.stays(d, 1, 0, 100, 200);
        CHECK.stays(d, 2, NONE, 0, 0);
    }

    private static void noWhole() {
        ApronDesk d = new ApronDesk();
        d.visit(1, 50, 10, 20, 0);
        CHECK.refused("17: no STAND at all", d.search(), d, 11);
        CHECK.refused("18: no STAND at all", d.most(), d, 11);
        d.stand(1, 50);
        d.stand(2, 50);
        d.visit(1, 50, 10, 20, 0);
        d.visit(1, 60, 10, 20, 0);
        CHECK.refused("17: search()", d.search(), d, 11);
        CHECK.refused("18: most()", d.most(), d, 11);
        for (int v = 0; v < 3; v++) {
            CHECK.stays(d, v, NONE, 0, 0);
        }
        CHECK.because("17: search() tells no REASON", d, 0, NONE);
    }

    private static void most() {
        ApronDesk d = new ApronDesk();
        d.stand(1, 100);
        d.stand(2, 60);
        d.stand(4, 100);
        d.stand(3, 100);
        d.visit(1, 50, 10, 20, 0);
        d.visit(1, 60, 10, 20, 0);
        d.visit(3, 50, 10, 20, 0);
        CHECK.done("18: most()", d.most(), d, 2);
        CHECK.stays(d, 0, 1, 10, 20);
        CHECK.stays(d, 1, 3, 10, 20);
        CHECK.stays(d, 2, 0, 10, 20);
        CHECK.done("18: none such", d.most(), d, 0);
        d.visit(3, 50, 10, 20, 0);
        CHECK.done("18: those that are PUT don't count", d.most(), d, 0);
        CHECK.stays(d, 3, 2, 10, 20);
    }

    private static void mostTakesTheFirst() {
        ApronDesk d = new ApronDesk();
        d.stand(1, 100);
        d.stand(2, 100);
        d.stand(2, 100);
        d.stand(1, 100);
        d.visit(1, 50, 10, 20, 0);
        d.visit(1, 50, 10, 20, 0);
        d.visit(1, 50, 10, 20, 0);
        CHECK.done("18: most()", d.most(), d, 2);
        CHECK.stays(d, 0, 0, 10, 20);
        CHECK.stays(d, 1, 1, 10, 20);
        CHECK.stays(d, 2, 2, 10, 20);
    }
}
