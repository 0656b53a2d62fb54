/** Desks on which something has been told already. */
final class Scene {
    private Scene() {
    }

    /** Wide stands of kind STAND, none of which hinders another. */
    static ApronDesk stands(int count) {
        ApronDesk d = new ApronDesk();
        for (int s = 0; s < count; s++) {
            d.stand(1, 200);
        }
        return d;
    }

    /** As many stands as visits, all from 100 to 200, none of them PUT. */
    static ApronDesk visits(int count) {
        ApronDesk d = stands(count);
        for (int v = 0; v < count; v++) {
            d.visit(1, 50, 100, 200, 0);
        }
        return d;
    }

    /** As visits(), each at the stand with its number. */
    static ApronDesk allPut(int count) {
        ApronDesk d = visits(count);
        for (int v = 0; v < count; v++) {
            d.put(v, v);
        }
        return d;
    }

    /**
     * All kinds of stand, a pair, a cone, TOWTIME 7, NOW 100; visits: 0 is PUT and was late, 1 has
     * been towed, 2 waits, 3 is UNKNOWN, 4 is to come, 5 is PUT and torn, 6 is PUT and has BEGUN, 7
     * has been CHANGED, 8 is to come and was refused by NEIGHBOUR 6.
     */
    static ApronDesk busy() {
        ApronDesk d = new ApronDesk();
        d.stand(1, 60);
        d.stand(2, 80);
        d.stand(3, 100);
        d.stand(4, 200);
        d.stand(5, 90);
        d.near(0, 1, 50, 60);
        d.cone(3, 500, 510);
        d.towtime(7);
        d.visit(1, 50, 150, 250, 0);
        d.visit(1, 40, 120, 300, 0);
        d.visit(2, 190, 50, 600, 0);
        d.visit(1, 30, 400, 500, 0);
        d.visit(3, 70, 300, 400, 2);
        d.visit(4, 20, 700, 1_400, 0);
        d.visit(1, 50, 90, 400, 0);
        d.visit(1, 50, 250, 260, 0);
        d.visit(1, 60, 160, 170, 0);
        d.tear(3, 2);
        d.tear(5, 4);
        d.put(0, 0);
        d.put(1, 2);
        d.tow(1, 200, 3);
        d.put(5, 4);
        d.put(6, 1);
        d.put(7, 0);
        d.late(0, 255);
        d.now(100);
        d.put(8, 0);
        return d;
    }

    static ApronDesk fullOfStands() {
        ApronDesk d = busy();
        for (int s = 5; s < 24; s++) {
            d.stand(1, 100);
        }
        return d;
    }

    static ApronDesk fullOfPairs() {
        ApronDesk d = busy();
        for (int p = 1; p < 40; p++) {
            d.near(3, 4, 200, 200);
        }
        return d;
    }

    static ApronDesk fullOfCones() {
        ApronDesk d = busy();
        for (int c = 1; c < 20; c++) {
            d.cone(4, 10 * c, 10 * c + 5);
        }
        return d;
    }

    static ApronDesk fullOfVisits() {
        ApronDesk d = busy();
        for (int v = 9; v < 40; v++) {
            d.visit(1, 50, 2_000 + v, 2_100, 0);
        }
        return d;
    }

    /** One stand more than is needed, and a visit with as many stays as it may have, till 1,000. */
    static ApronDesk eightStays() {
        ApronDesk d = stands(3);
        d.visit(1, 50, 100, 1_000, 0);
        d.put(0, 0);
        for (int k = 1; k < 8; k++) {
            d.tow(0, 100 + 10 * k, k % 2);
        }
        return d;
    }
}
