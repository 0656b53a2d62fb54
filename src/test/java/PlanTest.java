/** Promises 16 to 18: plan, search, most; and the BEST STAND. */
public final class PlanTest {
    private static final Check CHECK = new Check();
    private static final int NONE = ApronDesk.NONE;

    public static void main(String[] args) {
        bestStandByKind();
        bestStandBySizeAndNumber();
        planByIn();
        planPassesOver();
        searchCountsTries();
        searchGoesBack();
        searchKeepsTheOthers();
        searchPassesOver();
        noWhole();
        spent();
        exactlyFiveThousand();
        most();
        mostTakesTheFirst();
        mostIsSpentThoughItHasOne();
        mostEndsAtFiveThousand();
        CHECK.end();
    }

    /** The kinds of stand, in the order of the numbers given, and where a visit of each kind goes. */
    private static void bestStandByKind() {
        int[] common = {2, 3, 1, 4, 5};
        for (int kind = 1; kind <= 4; kind++) {
            ApronDesk d = new ApronDesk();
            for (int s = 1; s <= 5; s++) {
                d.stand(s, 20 + s);
            }
            for (int v = 0; v < 6; v++) {
                d.visit(kind, 20, 10 + v, 100, 0);
            }
            int[] due = kind == 3 ? new int[] {4, 1, 5, 0, 0, 0} : common.clone();
            if (kind == 2) {
                due[4] = 0;
            }
            int left = kind == 3 ? 3 : kind == 2 ? 2 : 1;
            CHECK.done("16: plan() of kind " + kind, d.plan(), d, left);
            for (int v = 0; v < 5; v++) {
                CHECK.stays(d, v, due[v] - 1 < 0 ? NONE : due[v] - 1, 10 + v, 100);
            }
            CHECK.stays(d, 5, NONE, 0, 0);
        }
    }

    private static void bestStandBySizeAndNumber() {
        ApronDesk d = new ApronDesk();
        d.stand(1, 90);
        d.stand(1, 70);
        d.stand(1, 70);
        d.stand(1, 60);
        d.visit(1, 70, 10, 20, 0);
        d.visit(1, 70, 10, 20, 0);
        d.visit(1, 60, 10, 20, 0);
        d.visit(1, 60, 10, 20, 0);
        d.visit(1, 60, 10, 20, 0);
        CHECK.done("16: plan()", d.plan(), d, 1);
        int[] due = {1, 2, 3, 0, NONE};
        for (int v = 0; v < due.length; v++) {
            CHECK.stays(d, v, due[v], 10, 20);
        }
    }

    private static void planByIn() {
        ApronDesk d = new ApronDesk();
        d.stand(1, 100);
        d.visit(1, 50, 30, 100, 0);
        d.visit(1, 50, 20, 100, 0);
        d.visit(1, 50, 20, 100, 0);
        d.visit(1, 50, 90, 120, 0);
        d.visit(1, 50, 100, 120, 0);
        CHECK.done("16: plan()", d.plan(), d, 3);
        int[] due = {NONE, 0, NONE, NONE, 0};
        for (int v = 0; v < due.length; v++) {
            CHECK.stays(d, v, due[v], v == 1 ? 20 : 100, v == 1 ? 100 : 120);
        }
        CHECK.done("16: plan() again", d.plan(), d, 3);
    }

    private static void planPassesOver() {
        ApronDesk d = new ApronDesk();
        d.stand(1, 100);
        d.stand(1, 110);
        d.now(50);
        d.visit(1, 50, 50, 100, 0);
        d.visit(1, 50, 51, 100, 0);
        d.visit(1, 50, 60, 100, 0);
        d.visit(1, 50, 70, 100, 0);
        d.tear(2, 2);
        d.put(3, 0);
        d.visit(1, 50, 2000, 2100, 2);
        d.tear(4, 3);
        CHECK.done("16: plan()", d.plan(), d, 0);
        CHECK.stays(d, 0, NONE, 0, 0);
        CHECK.stays(d, 1, 1, 51, 100);
        CHECK.stays(d, 2, NONE, 0, 0);
        CHECK.stays(d, 3, 0, 70, 100);
        CHECK.stays(d, 4, 0, 2000, 2880);
    }

    private static void searchCountsTries() {
        ApronDesk d = new ApronDesk();
        d.stand(1, 50);
        d.stand(1, 50);
        d.stand(1, 50);
        d.visit(1, 50, 10, 20, 0);
        CHECK.done("17: one, at once", d.search(), d, 1);
        CHECK.stays(d, 0, 0, 10, 20);
        CHECK.done("17: none such", d.search(), d, 0);
        d.visit(1, 50, 10, 20, 0);
        d.visit(1, 50, 10, 20, 0);
        CHECK.done("17: two, with one that is PUT", d.search(), d, 5);
        CHECK.stays(d, 1, 1, 10, 20);
        CHECK.stays(d, 2, 2, 10, 20);
    }

    private static void searchGoesBack() {
        ApronDesk d = new ApronDesk();
        d.stand(1, 90);
        d.stand(1, 60);
        d.visit(1, 50, 10, 20, 0);
        d.visit(1, 80, 10, 20, 0);
        CHECK.done("17: the first has to give way", d.search(), d, 5);
        CHECK.stays(d, 0, 1, 10, 20);
        CHECK.stays(d, 1, 0, 10, 20);
    }

    private static void searchKeepsTheOthers() {
        ApronDesk d = new ApronDesk();
        d.stand(1, 90);
        d.stand(1, 90);
        d.visit(1, 50, 30, 40, 0);
        d.visit(1, 50, 10, 20, 0);
        d.visit(1, 80, 10, 35, 0);
        d.put(2, 0);
        CHECK.done("17: around one that is PUT", d.search(), d, 4);
        CHECK.stays(d, 0, 1, 30, 40);
        CHECK.stays(d, 1, 1, 10, 20);
        CHECK.stays(d, 2, 0, 10, 35);
    }

    private static void searchPassesOver() {
        ApronDesk d = new ApronDesk();
        d.stand(1, 50);
        d.now(15);
        d.visit(1, 50, 10, 20, 0);
        d.visit(1, 50, 100, 200, 0);
        d.visit(1, 50, 100, 200, 0);
        d.tear(2, 1);
        CHECK.done("17: BEGUN and UNKNOWN are left", d.search(), d, 1);
        CHECK.stays(d, 0, NONE, 0, 0);
        CHECK.stays(d, 1, 0, 100, 200);
        CHECK.stays(d, 2, NONE, 0, 0);
    }

    private static void noWhole() {
        ApronDesk d = new ApronDesk();
        d.visit(1, 50, 10, 20, 0);
        CHECK.refused("17: no STAND at all", d.search(), d, 11);
        CHECK.refused("18: no STAND at all", d.most(), d, 11);
        d.stand(1, 50);
        d.stand(2, 50);
        d.visit(1, 50, 10, 20, 0);
        d.visit(1, 60, 10, 20, 0);
        CHECK.refused("17: search()", d.search(), d, 11);
        CHECK.refused("18: most()", d.most(), d, 11);
        for (int v = 0; v < 3; v++) {
            CHECK.stays(d, v, NONE, 0, 0);
        }
        CHECK.because("17: search() tells no REASON", d, 0, NONE);
    }

    /** The last visit fits nowhere: the others are tried in all ways, far more than 5,000. */
    private static void spent() {
        ApronDesk d = new ApronDesk();
        for (int s = 0; s < 10; s++) {
            d.stand(2, 50);
        }
        for (int v = 0; v < 8; v++) {
            d.visit(1, 50, 10, 20, 0);
        }
        d.visit(1, 60, 10, 20, 0);
        CHECK.refused("17: search()", d.search(), d, 10);
        CHECK.refused("18: most()", d.most(), d, 10);
        for (int v = 0; v < 9; v++) {
            CHECK.stays(d, v, NONE, 0, 0);
        }
    }

    /**
     * 23 stands; visit 2 fits at stand 8 alone, and only if visits 0 and 1 are at higher ones. For
     * each of the 9 lower ones of visit 0 there are 1 + 23 + 22 * 23 TRIES; then 1 of visit 0 at
     * stand 9, 9 * (1 + 23) of lower ones of visit 1, 2 of its next ones and 9 of visit 2: 4,998.
     * Each visit apart costs one more.
     */
    private static void exactlyFiveThousand() {
        ApronDesk below = deskOfManyTries(0);
        CHECK.done("17: 4,998 TRIES", below.search(), below, 4_998);
        ApronDesk just = deskOfManyTries(2);
        CHECK.done("17: 5,000 TRIES", just.search(), just, 5_000);
        CHECK.stays(just, 0, 9, 10, 20);
        CHECK.stays(just, 1, 10, 10, 20);
        CHECK.stays(just, 2, 8, 10, 20);
        CHECK.stays(just, 4, 0, 110, 120);
        ApronDesk above = deskOfManyTries(3);
        CHECK.refused("17: a 5,001st TRY", above.search(), above, 10);
        CHECK.stays(above, 0, NONE, 0, 0);
        CHECK.stays(above, 4, NONE, 0, 0);
    }

    private static ApronDesk deskOfManyTries(int apart) {
        ApronDesk d = new ApronDesk();
        for (int s = 0; s < 23; s++) {
            d.stand(1, s == 8 ? 100 : 50);
        }
        for (int s = 0; s < 8; s++) {
            d.near(s, 8, 200, 90);
        }
        d.visit(1, 50, 10, 20, 0);
        d.visit(1, 50, 10, 20, 0);
        d.visit(1, 100, 10, 20, 0);
        for (int i = 0; i < apart; i++) {
            d.visit(1, 50, 100 + 10 * i, 110 + 10 * i, 0);
        }
        return d;
    }

    private static void most() {
        ApronDesk d = new ApronDesk();
        d.stand(1, 100);
        d.stand(2, 60);
        d.stand(4, 100);
        d.stand(3, 100);
        d.visit(1, 50, 10, 20, 0);
        d.visit(1, 60, 10, 20, 0);
        d.visit(3, 50, 10, 20, 0);
        CHECK.done("18: most()", d.most(), d, 2);
        CHECK.stays(d, 0, 1, 10, 20);
        CHECK.stays(d, 1, 3, 10, 20);
        CHECK.stays(d, 2, 0, 10, 20);
        CHECK.done("18: none such", d.most(), d, 0);
        d.visit(3, 50, 10, 20, 0);
        CHECK.done("18: those that are PUT don't count", d.most(), d, 0);
        CHECK.stays(d, 3, 2, 10, 20);
    }

    private static void mostTakesTheFirst() {
        ApronDesk d = new ApronDesk();
        d.stand(1, 100);
        d.stand(2, 100);
        d.stand(2, 100);
        d.stand(1, 100);
        d.visit(1, 50, 10, 20, 0);
        d.visit(1, 50, 10, 20, 0);
        d.visit(1, 50, 10, 20, 0);
        CHECK.done("18: most()", d.most(), d, 2);
        CHECK.stays(d, 0, 0, 10, 20);
        CHECK.stays(d, 1, 1, 10, 20);
        CHECK.stays(d, 2, 2, 10, 20);
    }

    private static void mostIsSpentThoughItHasOne() {
        ApronDesk d = new ApronDesk();
        for (int s = 0; s < 24; s++) {
            d.stand(2, 50);
        }
        for (int v = 0; v < 3; v++) {
            d.visit(1, 50, 10 + 10 * v, 20 + 10 * v, 0);
        }
        CHECK.refused("18: most() is SPENT", d.most(), d, 10);
        CHECK.stays(d, 0, NONE, 0, 0);
        CHECK.stays(d, 2, NONE, 0, 0);
        CHECK.done("17: search() is not", d.search(), d, 3);
    }

    /**
     * Visits at times apart, so none hinders another: with s stands, of which f(v) are wide enough
     * for visit v, MOST makes s * (1 + f(0) * (1 + f(1) * (1 + ..))) TRIES, the last f aside.
     */
    private static void mostEndsAtFiveThousand() {
        int[] fits = {3, 2, 20, 1, 2};
        ApronDesk just = deskOfFits(20, fits);
        CHECK.done("18: 5,000 TRIES", just.most(), just, 5);
        for (int v = 0; v < fits.length; v++) {
            CHECK.stays(just, v, 19, 10 * v + 10, 10 * v + 20);
        }
        int[] noneForTheLast = {3, 2, 20, 1, 0};
        ApronDesk none = deskOfFits(20, noneForTheLast);
        CHECK.refused("17: 5,000 TRIES and no WHOLE", none.search(), none, 11);
        CHECK.refused("18: 5,000 TRIES and no WHOLE", none.most(), none, 11);
        int[] oneMore = {2, 2, 1, 3, 1, 2, 1, 3, 3, 3, 1, 0};
        ApronDesk above = deskOfFits(3, oneMore);
        CHECK.refused("17: 5,001 TRIES", above.search(), above, 10);
        CHECK.refused("18: 5,001 TRIES", above.most(), above, 10);
        oneMore[11] = 1;
        ApronDesk wholes = deskOfFits(3, oneMore);
        CHECK.refused("18: 5,001 TRIES with WHOLES", wholes.most(), wholes, 10);
        CHECK.done("17: search() is not SPENT there", wholes.search(), wholes, 25);
    }

    /** The last stand is the widest, and the only BRIDGE. */
    private static ApronDesk deskOfFits(int stands, int[] fits) {
        ApronDesk d = new ApronDesk();
        for (int s = 0; s < stands; s++) {
            d.stand(s == stands - 1 ? 2 : 1, 50 + s);
        }
        for (int v = 0; v < fits.length; v++) {
            d.visit(1, 50 + stands - fits[v], 10 * v + 10, 10 * v + 20, 0);
        }
        return d;
    }
}
