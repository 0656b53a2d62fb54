/** Promises 21 and 22: now, waiting. */
public final class NowTest {
    private static final Check CHECK = new Check();
    private static final int NONE = ApronDesk.NONE;

    public static void main(String[] args) {
        refused();
        waiting();
        firstComeFirst();
        fromNowToOut();
        nowAgain();
        whoHasBegun();
        CHECK.end();
    }

    private static void refused() {
        ApronDesk d = new ApronDesk();
        CHECK.refused("21: now(-1)", d.now(-1), d, 3);
        CHECK.refused("21: now(2880)", d.now(2880), d, 3);
        CHECK.refused("21: now(least)", d.now(Integer.MIN_VALUE), d, 3);
        CHECK.done("21: now(0)", d.now(0), d, 0);
        CHECK.done("21: now(100)", d.now(100), d, 0);
        CHECK.refused("21: now(99)", d.now(99), d, 3);
        CHECK.done("21: now(100) again", d.now(100), d, 0);
        CHECK.done("21: now(2879)", d.now(2879), d, 0);
        CHECK.refused("21: now(greatest)", d.now(Integer.MAX_VALUE), d, 3);
    }

    private static void waiting() {
        ApronDesk d = new ApronDesk();
        d.visit(1, 50, 100, 200, 0);
        d.visit(1, 50, 100, 200, 0);
        d.visit(1, 50, 100, 200, 0);
        d.visit(1, 50, 101, 300, 0);
        d.tear(1, 3);
        d.tear(2, 2);
        CHECK.due("22: none yet", d.waiting(), 0);
        d.now(99);
        CHECK.due("22: at 99", d.waiting(), 0);
        d.now(100);
        CHECK.due("22: at 100", d.waiting(), 2);
        d.now(199);
        CHECK.due("22: at 199", d.waiting(), 3);
        d.stand(0, 0);
        CHECK.due("22: no call but now() puts them", d.waiting(), 3);
        CHECK.due("22: no STATUS", d.status(), 3);
        d.now(200);
        CHECK.due("22: at 200", d.waiting(), 2);
        d.now(300);
        CHECK.due("22: at 300", d.waiting(), 1);
        d.now(2879);
        CHECK.due("22: at the end", d.waiting(), 1);
        d.stand(1, 50);
        CHECK.done("21: till 2,880", d.now(2879), d, 1);
        CHECK.stays(d, 1, 0, 2879, 2880);
        CHECK.due("22: one that is PUT", d.waiting(), 0);
    }

    private static void firstComeFirst() {
        ApronDesk d = new ApronDesk();
        d.stand(1, 60);
        d.stand(4, 50);
        d.visit(1, 50, 30, 200, 0);
        d.visit(1, 60, 20, 200, 0);
        d.visit(1, 50, 20, 200, 0);
        d.visit(1, 50, 10, 40, 0);
        d.visit(1, 50, 41, 200, 0);
        CHECK.done("21: now(40)", d.now(40), d, 2);
        CHECK.stays(d, 0, NONE, 0, 0);
        CHECK.stays(d, 1, 0, 40, 200);
        CHECK.stays(d, 2, 1, 40, 200);
        CHECK.stays(d, 3, NONE, 0, 0);
        CHECK.stays(d, 4, NONE, 0, 0);
        CHECK.due("22: one is left", d.waiting(), 1);
    }

    private static void fromNowToOut() {
        ApronDesk d = new ApronDesk();
        d.stand(2, 50);
        d.stand(1, 50);
        d.visit(4, 50, 1500, 1700, 0);
        CHECK.done("21: the night is over for it", d.now(1560), d, 1);
        CHECK.stays(d, 0, 0, 1560, 1700);
        CHECK.refused("21: put so, it is PUT", d.put(0, 0), d, 6);
        CHECK.refused("21: put so, it has BEGUN", d.off(0), d, 7);
        CHECK.done("21: why() looks from IN on", d.why(0, 0), d, 2);
        ApronDesk other = new ApronDesk();
        other.stand(2, 50);
        other.stand(1, 50);
        other.visit(4, 50, 1500, 1700, 0);
        CHECK.done("21: the night is not yet over", other.now(1559), other, 1);
        CHECK.stays(other, 0, 1, 1559, 1700);
    }

    private static void nowAgain() {
        ApronDesk d = new ApronDesk();
        d.visit(1, 50, 100, 200, 0);
        CHECK.done("21: no stand yet", d.now(150), d, 0);
        d.stand(1, 50);
        d.cone(0, 160, 170);
        CHECK.done("21: a cone ahead", d.now(150), d, 0);
        CHECK.done("21: still", d.now(169), d, 0);
        CHECK.refused("21: back", d.now(168), d, 3);
        CHECK.done("21: behind the cone", d.now(170), d, 1);
        CHECK.stays(d, 0, 0, 170, 200);
    }

    private static void whoHasBegun() {
        ApronDesk d = new ApronDesk();
        d.stand(1, 50);
        d.visit(1, 50, 0, 10, 0);
        CHECK.refused("21: IN 0 has BEGUN at once", d.put(0, 0), d, 7);
        CHECK.due("22: it waits", d.waiting(), 1);
        CHECK.done("21: now(0)", d.now(0), d, 1);
        CHECK.stays(d, 0, 0, 0, 10);
    }
}
