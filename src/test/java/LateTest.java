/** Promises 19 and 20: late, changed. */
public final class LateTest {
    private static final Check CHECK = new Check();
    private static final int NONE = ApronDesk.NONE;
    private static final int GREATEST = Integer.MAX_VALUE;

    public static void main(String[] args) {
        refused();
        nothingInTheWay();
        theLastStayGoesOn();
        theLastStayIsLookedAt();
        othersMove();
        inOrderOfIn();
        neighboursMove();
        coneCannotGo();
        needCannotGo();
        begunCannotGo();
        nothingIsChangedByOneThatCannotBe();
        takersOfATwin();
        whatCameLaterCountsToo();
        severalStaysOfOneThatMoves();
        theLateOneIsInTheWay();
        CHECK.end();
    }

    private static void changed(ApronDesk d, int... due) {
        for (int k = 0; k < due.length; k++) {
            CHECK.due("20: changed(" + k + ")", d.changed(k), due[k]);
        }
        CHECK.due("20: changed(" + due.length + ")", d.changed(due.length), NONE);
        CHECK.due("20: changed(-1)", d.changed(-1), NONE);
        CHECK.due("20: changed(greatest)", d.changed(GREATEST), NONE);
    }

    private static void refused() {
        ApronDesk d = new ApronDesk();
        d.stand(1, 50);
        d.visit(1, 50, 100, 200, 0);
        d.visit(1, 50, 300, 400, 0);
        d.tear(1, 3);
        CHECK.refused("19: late(2, 0)", d.late(2, 0), d, 2);
        CHECK.refused("19: late(-1, 300)", d.late(-1, 300), d, 2);
        CHECK.refused("19: not behind its OUT", d.late(0, 200), d, 3);
        CHECK.refused("19: above 2,880", d.late(0, 2881), d, 3);
        CHECK.refused("19: not PUT", d.late(0, 201), d, 6);
        CHECK.refused("19: no OUT, not PUT", d.late(1, 500), d, 3);
        d.put(1, 0);
        CHECK.refused("19: no OUT", d.late(1, 2880), d, 3);
        d.put(0, 0);
        CHECK.refused("19: not behind its OUT, PUT", d.late(0, 200), d, 3);
        CHECK.refused("19: far off", d.late(0, GREATEST), d, 3);
        CHECK.refused("19: below 0", d.late(0, Integer.MIN_VALUE), d, 3);
        CHECK.stays(d, 0, 0, 100, 200);
        changed(d);
    }

    private static void nothingInTheWay() {
        ApronDesk d = new ApronDesk();
        d.stand(1, 50);
        d.visit(1, 50, 100, 200, 0);
        d.put(0, 0);
        CHECK.done("19: late(0, 201)", d.late(0, 201), d, 0);
        CHECK.stays(d, 0, 0, 100, 201);
        CHECK.due("19: told(0, 3)", d.told(0, 3), 201);
        CHECK.done("19: late(0, 2880)", d.late(0, 2880), d, 0);
        CHECK.stays(d, 0, 0, 100, 2880);
        d.visit(1, 50, 100, 200, 1);
        d.tear(1, 4);
        d.stand(1, 50);
        d.put(1, 1);
        CHECK.done("19: without NEED", d.late(1, 300), d, 0);
        CHECK.due("19: told(1, 3)", d.told(1, 3), 300);
        changed(d);
    }

    private static void theLastStayGoesOn() {
        ApronDesk d = new ApronDesk();
        d.stand(1, 50);
        d.stand(1, 50);
        d.visit(1, 50, 100, 200, 0);
        d.visit(1, 50, 180, 300, 0);
        d.put(0, 0);
        d.tow(0, 150, 1);
        d.put(1, 0);
        CHECK.done("19: late(0, 250)", d.late(0, 250), d, 0);
        CHECK.due("19: the first stay", d.stay(0, 0, 2), 155);
        CHECK.due("19: the last stay", d.stay(0, 1, 2), 250);
        CHECK.stays(d, 1, 0, 180, 300);
    }

    private static void theLastStayIsLookedAt() {
        ApronDesk d = new ApronDesk();
        d.stand(1, 50);
        d.stand(1, 50);
        d.stand(1, 50);
        d.visit(1, 50, 100, 200, 0);
        d.visit(1, 50, 210, 300, 0);
        d.visit(1, 50, 210, 300, 0);
        d.put(0, 2);
        d.tow(0, 150, 1);
        d.put(1, 1);
        d.put(2, 2);
        d.cone(2, 230, 240);
        CHECK.done("19: late(0, 250)", d.late(0, 250), d, 1);
        changed(d, 1);
        CHECK.stays(d, 1, 0, 210, 300);
        CHECK.stays(d, 2, 2, 210, 300);
        CHECK.due("19: the last stay", d.stay(0, 1, 2), 250);
        d.cone(1, 255, 256);
        CHECK.refused("19: late(0, 260)", d.late(0, 260), d, 9);
        CHECK.because("19: late(0, 260)", d, 4, 1);
        CHECK.due("19: the last stay is let be", d.stay(0, 1, 2), 250);
        CHECK.due("19: none is away", d.why(1, 2), 4);
    }

    private static void othersMove() {
        ApronDesk d = new ApronDesk();
        d.stand(1, 50);
        d.stand(1, 60);
        d.visit(1, 50, 100, 200, 0);
        d.visit(1, 50, 200, 300, 0);
        d.visit(1, 50, 300, 400, 0);
        d.visit(1, 50, 250, 260, 0);
        d.put(0, 0);
        d.put(1, 0);
        d.put(2, 0);
        CHECK.done("19: late(0, 200 + 1)", d.late(0, 201), d, 1);
        changed(d, 1);
        CHECK.stays(d, 0, 0, 100, 201);
        CHECK.stays(d, 1, 1, 200, 300);
        CHECK.stays(d, 2, 0, 300, 400);
        CHECK.stays(d, 3, NONE, 0, 0);
    }

    private static void inOrderOfIn() {
        ApronDesk d = new ApronDesk();
        d.stand(1, 50);
        d.stand(1, 50);
        d.visit(1, 50, 100, 200, 0);
        d.visit(1, 50, 260, 300, 0);
        d.visit(1, 50, 200, 230, 0);
        d.visit(1, 50, 230, 260, 0);
        d.visit(1, 50, 225, 265, 0);
        d.put(0, 0);
        d.put(1, 0);
        d.put(2, 0);
        d.put(3, 0);
        d.put(4, 1);
        CHECK.done("19: late(0, 300)", d.late(0, 300), d, 3);
        changed(d, 2, 3, 1);
        CHECK.stays(d, 1, NONE, 0, 0);
        CHECK.stays(d, 2, NONE, 0, 0);
        CHECK.stays(d, 3, NONE, 0, 0);
        CHECK.stays(d, 4, 1, 225, 265);
        CHECK.done("19: plan() leaves them", d.plan(), d, 3);
        CHECK.done("19: late(4, 270)", d.late(4, 270), d, 0);
        changed(d);
        whoIsFirstGetsTheStand();
    }

    private static void whoIsFirstGetsTheStand() {
        ApronDesk d = new ApronDesk();
        d.stand(3, 100);
        d.stand(1, 50);
        d.visit(1, 50, 210, 300, 0);
        d.visit(1, 50, 205, 300, 0);
        d.visit(1, 60, 100, 200, 0);
        d.put(0, 0);
        d.put(1, 0);
        d.put(2, 0);
        CHECK.done("19: late(2, 220)", d.late(2, 220), d, 2);
        changed(d, 1, 0);
        CHECK.stays(d, 1, 1, 205, 300);
        CHECK.stays(d, 0, NONE, 0, 0);
    }

    private static void neighboursMove() {
        ApronDesk d = new ApronDesk();
        d.stand(1, 100);
        d.stand(1, 100);
        d.stand(1, 110);
        d.near(0, 1, 50, 50);
        d.visit(1, 60, 100, 200, 0);
        d.visit(1, 60, 200, 300, 0);
        d.visit(1, 60, 200, 300, 0);
        d.put(0, 0);
        d.put(1, 1);
        CHECK.done("19: late(0, 210)", d.late(0, 210), d, 1);
        changed(d, 1);
        CHECK.stays(d, 1, 2, 200, 300);
        CHECK.done("19: the others have to look out", d.plan(), d, 1);
    }

    private static void coneCannotGo() {
        ApronDesk d = new ApronDesk();
        d.stand(1, 100);
        d.stand(1, 100);
        d.visit(1, 60, 100, 200, 0);
        d.put(0, 0);
        d.cone(1, 0, 2880);
        d.cone(0, 250, 260);
        CHECK.done("19: late(0, 250)", d.late(0, 250), d, 0);
        CHECK.refused("19: late(0, 251)", d.late(0, 251), d, 9);
        CHECK.because("19: late(0, 251)", d, 4, 1);
        CHECK.stays(d, 0, 0, 100, 250);
        CHECK.due("19: told(0, 3)", d.told(0, 3), 250);
    }

    private static void needCannotGo() {
        ApronDesk d = new ApronDesk();
        d.stand(2, 100);
        d.visit(4, 60, 100, 200, 0);
        d.put(0, 0);
        CHECK.done("19: till the night", d.late(0, 1320), d, 0);
        CHECK.refused("19: into the night", d.late(0, 1321), d, 9);
        CHECK.because("19: into the night", d, 2, NONE);
        CHECK.stays(d, 0, 0, 100, 1320);
    }

    private static void begunCannotGo() {
        ApronDesk d = new ApronDesk();
        d.stand(3, 100);
        d.visit(1, 50, 100, 200, 0);
        d.visit(1, 50, 200, 300, 0);
        d.visit(1, 90, 300, 400, 0);
        d.put(0, 0);
        d.put(1, 0);
        d.put(2, 0);
        d.now(300);
        CHECK.done("19: one that has BEGUN may be late", d.late(0, 300), d, 0);
        CHECK.refused("19: one that has BEGUN can't go", d.late(0, 301), d, 9);
        CHECK.because("19: one that has BEGUN can't go", d, 5, 2);
        CHECK.stays(d, 0, 0, 100, 300);
        CHECK.stays(d, 2, 0, 300, 400);
    }

    private static void nothingIsChangedByOneThatCannotBe() {
        ApronDesk d = new ApronDesk();
        d.stand(1, 100);
        d.stand(1, 100);
        d.near(0, 1, 0, 0);
        d.visit(1, 60, 100, 200, 0);
        d.visit(1, 60, 200, 210, 0);
        d.visit(1, 60, 220, 230, 0);
        d.put(0, 0);
        d.put(1, 1);
        d.put(2, 0);
        CHECK.done("19: the first one goes", d.late(0, 205), d, 1);
        changed(d, 1);
        d.put(1, 0);
        d.visit(1, 60, 215, 219, 0);
        d.put(3, 1);
        d.cone(0, 240, 250);
        CHECK.refused("19: two can go, a CONE can't", d.late(0, 245), d, 9);
        CHECK.because("19: two can go, a CONE can't", d, 4, 0);
        CHECK.stays(d, 0, 0, 100, 205);
        CHECK.stays(d, 2, 0, 220, 230);
        CHECK.stays(d, 3, 1, 215, 219);
        changed(d, 1);
        CHECK.done("19: none is away any more", d.why(3, 0), d, 0);
        CHECK.done("19: nor is that one", d.why(2, 1), d, 0);
        d.visit(1, 60, 216, 225, 0);
        CHECK.hindered("19: they are still there", d.put(4, 1), d, 3, 2);
    }

    private static void takersOfATwin() {
        ApronDesk d = new ApronDesk();
        d.stand(3, 100);
        d.stand(4, 100);
        d.visit(1, 50, 200, 300, 0);
        d.visit(1, 50, 150, 300, 0);
        d.visit(1, 50, 100, 200, 0);
        d.put(0, 0);
        d.put(1, 0);
        d.put(2, 0);
        d.now(120);
        CHECK.done("19: the least of both others goes", d.late(2, 210), d, 1);
        changed(d, 0);
        CHECK.stays(d, 0, 1, 200, 300);
        CHECK.stays(d, 1, 0, 150, 300);
        CHECK.stays(d, 2, 0, 100, 210);
        theLeastMayHaveBegun();
    }

    private static void theLeastMayHaveBegun() {
        ApronDesk d = new ApronDesk();
        d.stand(3, 100);
        d.stand(4, 100);
        d.visit(1, 50, 150, 300, 0);
        d.visit(1, 50, 200, 300, 0);
        d.visit(1, 50, 100, 200, 0);
        d.put(0, 0);
        d.put(1, 0);
        d.put(2, 0);
        d.now(150);
        CHECK.refused("19: the least has BEGUN", d.late(2, 210), d, 9);
        CHECK.because("19: the least has BEGUN", d, 5, 0);
    }

    private static void whatCameLaterCountsToo() {
        ApronDesk d = new ApronDesk();
        d.stand(1, 100);
        d.stand(1, 100);
        d.stand(1, 120);
        d.visit(1, 60, 100, 200, 0);
        d.visit(1, 60, 100, 150, 0);
        d.put(0, 0);
        d.put(1, 1);
        d.near(0, 1, 0, 0);
        CHECK.done("19: a PAIR that came later", d.late(0, 210), d, 1);
        changed(d, 1);
        CHECK.stays(d, 1, 2, 100, 150);
        d.cone(0, 110, 120);
        CHECK.refused("19: a CONE that came later", d.late(0, 220), d, 9);
        CHECK.because("19: a CONE that came later", d, 4, 0);
    }

    private static void severalStaysOfOneThatMoves() {
        ApronDesk d = new ApronDesk();
        d.stand(1, 50);
        d.stand(1, 60);
        d.stand(1, 70);
        d.visit(1, 50, 100, 200, 0);
        d.visit(1, 50, 150, 300, 0);
        d.put(0, 0);
        d.put(1, 1);
        d.tow(1, 250, 0);
        CHECK.done("19: to its first STAND", d.late(0, 260), d, 0);
        changed(d);
        CHECK.stays(d, 1, 1, 150, 300);
        d.off(1);
        d.put(1, 2);
        d.tow(1, 280, 0);
        CHECK.done("19: to a better one", d.late(0, 290), d, 1);
        changed(d, 1);
        CHECK.stays(d, 1, 1, 150, 300);
    }

    private static void theLateOneIsInTheWay() {
        ApronDesk d = new ApronDesk();
        d.stand(1, 50);
        d.visit(1, 50, 200, 300, 0);
        d.visit(1, 50, 100, 200, 0);
        d.put(0, 0);
        d.put(1, 0);
        CHECK.done("19: it stays away", d.late(1, 250), d, 1);
        changed(d, 0);
        CHECK.stays(d, 0, NONE, 0, 0);
        CHECK.stays(d, 1, 0, 100, 250);
        CHECK.refused("20: a late() that was refused", d.late(1, 250), d, 3);
        changed(d, 0);
        d.now(260);
        CHECK.stays(d, 0, 0, 260, 300);
        changed(d, 0);
    }
}
