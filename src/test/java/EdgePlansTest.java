/** The bounds of ==== 3, PLAN, SEARCH and MOST, and of the BEST STAND: promises 16 to 18. */
public final class EdgePlansTest {
    private static final Check CHECK = new Check();
    private static final int NONE = ApronDesk.NONE;

    public static void main(String[] args) {
        planOfNone();
        planAgain();
        planOfThoseNotBegun();
        planOfThoseNotPutNorUnknown();
        planInOrderOfInThenByNumber();
        planFromInToOut();
        planOfAsManyAsThereMayBe();
        planWithoutAnyStand();
        bestByKind();
        bestOfAFreight();
        bestWithTheLeastSize();
        bestWithTheLeastNumber();
        bestWhereNothingIsAgainstIt();
        searchOfNone();
        searchOfThoseNotBegun();
        searchByNumber();
        searchTriesEachStand();
        searchGoesBackToTheOneAhead();
        searchWithThoseAheadAsTheyAre();
        searchOfAsManyAsThereMayBe();
        noWhole();
        noWholeChangesNothing();
        spentAtThe5001stTry();
        spentThoughThereIsNoWhole();
        spentChangesNothing();
        mostOfNone();
        mostAtBridgesAndTwins();
        mostAtNone();
        mostTakesTheFirstOfThese();
        mostGoesOnToTheEnd();
        mostIsSpentThoughItHasAWhole();
        CHECK.end();
    }

    /** Promise 16, "how many of its VISITS could not be PUT": of none, none. */
    private static void planOfNone() {
        ApronDesk d = new ApronDesk();
        CHECK.done("16: a new object", d.plan(), d, 0);
        ApronDesk put = Scene.allPut(3);
        CHECK.done("16: all are PUT", put.plan(), put, 0);
        CHECK.stays(put, 2, 2, 100, 200);
    }

    /** Promise 16, "its VISITS": those PUT by the one before are none of the next. */
    private static void planAgain() {
        ApronDesk d = Scene.stands(1);
        d.visit(1, 50, 100, 200, 0);
        d.visit(1, 50, 100, 200, 0);
        CHECK.done("16: one of two", d.plan(), d, 1);
        CHECK.done("16: none of one", d.plan(), d, 1);
        d.stand(1, 50);
        CHECK.done("16: one of one", d.plan(), d, 0);
        CHECK.done("16: none of none", d.plan(), d, 0);
        CHECK.stays(d, 0, 0, 100, 200);
        CHECK.stays(d, 1, 1, 100, 200);
    }

    /** PLAN: "VISITS that .. nor have BEGUN": IN one below NOW, at NOW, one above. */
    private static void planOfThoseNotBegun() {
        ApronDesk d = Scene.stands(3);
        d.now(100);
        d.visit(1, 50, 99, 200, 0);
        d.visit(1, 50, 100, 200, 0);
        d.visit(1, 50, 101, 200, 0);
        CHECK.done("16: plan", d.plan(), d, 0);
        CHECK.stays(d, 0, NONE, 0, 0);
        CHECK.stays(d, 1, NONE, 0, 0);
        CHECK.stays(d, 2, 0, 101, 200);
    }

    /** PLAN: "VISITS that are not PUT nor UNKNOWN": a ROW of three numbers has its IN, one of two not. */
    private static void planOfThoseNotPutNorUnknown() {
        ApronDesk d = Scene.visits(3);
        d.put(0, 2);
        d.tear(1, 2);
        d.tear(2, 3);
        CHECK.done("16: plan", d.plan(), d, 0);
        CHECK.stays(d, 0, 2, 100, 200);
        CHECK.stays(d, 1, NONE, 0, 0);
        CHECK.stays(d, 2, 0, 100, 2_880);
    }

    /** PLAN: "in order of IN, then by number": a minute earlier is first, else the least number. */
    private static void planInOrderOfInThenByNumber() {
        ApronDesk d = Scene.stands(2);
        d.visit(1, 50, 101, 200, 0);
        d.visit(1, 50, 100, 200, 0);
        d.visit(1, 50, 101, 200, 0);
        d.visit(1, 50, 102, 200, 0);
        CHECK.done("16: plan", d.plan(), d, 2);
        CHECK.stays(d, 0, 1, 101, 200);
        CHECK.stays(d, 1, 0, 100, 200);
        CHECK.stays(d, 2, NONE, 0, 0);
        CHECK.stays(d, 3, NONE, 0, 0);
    }

    /** PLAN: "each is PUT at its BEST STAND from IN to OUT": end and begin may be the same MINUTE. */
    private static void planFromInToOut() {
        ApronDesk d = Scene.stands(1);
        d.visit(1, 50, 1, 100, 0);
        d.visit(1, 50, 100, 2_879, 0);
        d.visit(1, 50, 2_878, 2_880, 0);
        d.visit(1, 50, 2_879, 2_880, 0);
        CHECK.done("16: plan", d.plan(), d, 1);
        CHECK.stays(d, 0, 0, 1, 100);
        CHECK.stays(d, 1, 0, 100, 2_879);
        CHECK.stays(d, 2, NONE, 0, 0);
        CHECK.stays(d, 3, 0, 2_879, 2_880);
    }

    /** Promise 16, "how many of its VISITS could not be PUT": 40 VISITS, 24 STANDS. */
    private static void planOfAsManyAsThereMayBe() {
        ApronDesk d = Scene.stands(24);
        for (int v = 0; v < 40; v++) {
            d.visit(1, 50, 100, 200, 0);
        }
        CHECK.done("16: plan", d.plan(), d, 16);
        CHECK.stays(d, 23, 23, 100, 200);
        CHECK.stays(d, 24, NONE, 0, 0);
        CHECK.stays(d, 39, NONE, 0, 0);
    }

    /** PLAN: "if there is one": without a STAND none can be PUT, and that is no fault. */
    private static void planWithoutAnyStand() {
        ApronDesk d = new ApronDesk();
        d.visit(1, 50, 100, 200, 0);
        d.visit(1, 50, 100, 200, 0);
        CHECK.done("16: plan", d.plan(), d, 2);
        CHECK.stays(d, 0, NONE, 0, 0);
    }

    /** The stands to which plan() leads as many visits of a kind, one after the other. */
    private static void best(String name, int[][] stands, int kind, int... due) {
        ApronDesk d = new ApronDesk();
        for (int[] stand : stands) {
            d.stand(stand[0], stand[1]);
        }
        for (int v = 0; v < due.length; v++) {
            d.visit(kind, 10, 100, 200, 0);
        }
        d.plan();
        for (int v = 0; v < due.length; v++) {
            CHECK.due(name + ", visit " + v, d.stay(v, 0, 0), due[v]);
        }
    }

    private static final int[][] EACH_KIND = {{5, 15}, {4, 16}, {1, 17}, {3, 18}, {2, 19}};

    /** "of others 2, 3, 1, 4, 5, in this order": KIND is ahead of SIZE and number. */
    private static void bestByKind() {
        best("16: a PLANE", EACH_KIND, 1, 4, 3, 2, 1, 0, NONE);
        best("16: a WIDE", EACH_KIND, 2, 4, 3, 2, 1, NONE, NONE);
        best("16: a SLEEPER by day", EACH_KIND, 4, 4, 3, 2, 1, 0, NONE);
    }

    /** "of a FREIGHT 4, 1, 5": and no other. */
    private static void bestOfAFreight() {
        best("16: a FREIGHT", EACH_KIND, 3, 1, 2, 0, NONE);
    }

    /** "then that with the least SIZE": one less is enough. */
    private static void bestWithTheLeastSize() {
        int[][] stands = {{1, 51}, {1, 50}, {1, 10}, {1, 200}, {1, 199}};
        best("16: SIZE", stands, 1, 2, 1, 0, 4, 3, NONE);
    }

    /** "then with the least number". */
    private static void bestWithTheLeastNumber() {
        int[][] stands = {{1, 51}, {1, 50}, {1, 50}, {1, 51}};
        best("16: number", stands, 1, 1, 2, 0, 3, NONE);
    }

    /** "of those where nothing is against it": a STAND that just fits, or whose CONE ends in time. */
    private static void bestWhereNothingIsAgainstIt() {
        ApronDesk d = new ApronDesk();
        d.stand(2, 49);
        d.stand(2, 60);
        d.stand(2, 50);
        d.cone(2, 50, 101);
        d.visit(1, 50, 100, 200, 0);
        d.visit(1, 50, 101, 200, 0);
        CHECK.done("16: plan", d.plan(), d, 0);
        CHECK.stays(d, 0, 1, 100, 200);
        CHECK.stays(d, 1, 2, 101, 200);
    }

    /** Promise 17, "(.. 0 and no TRIES if there are none such)". */
    private static void searchOfNone() {
        ApronDesk d = new ApronDesk();
        CHECK.done("17: a new object", d.search(), d, 0);
        ApronDesk put = Scene.allPut(3);
        CHECK.done("17: all are PUT", put.search(), put, 0);
        CHECK.stays(put, 2, 2, 100, 200);
        ApronDesk noStand = new ApronDesk();
        noStand.visit(1, 50, 0, 200, 0);
        CHECK.done("17: it has BEGUN", noStand.search(), noStand, 0);
    }

    /** SEARCH: "the same VISITS": IN one below NOW, at NOW, one above; two and three numbers. */
    private static void searchOfThoseNotBegun() {
        ApronDesk d = Scene.stands(3);
        d.now(100);
        d.visit(1, 50, 99, 200, 0);
        d.visit(1, 50, 100, 200, 0);
        d.visit(1, 50, 101, 200, 0);
        d.visit(1, 50, 101, 200, 0);
        d.visit(1, 50, 101, 200, 0);
        d.tear(3, 2);
        d.tear(4, 3);
        CHECK.done("17: search", d.search(), d, 3);
        int[] due = {NONE, NONE, 0, NONE, 1};
        for (int v = 0; v < due.length; v++) {
            CHECK.stays(d, v, due[v], 101, v == 4 ? 2_880 : 200);
        }
    }

    /** SEARCH: "by number; each is tried at STANDS by number": not by IN, KIND or SIZE. */
    private static void searchByNumber() {
        ApronDesk d = new ApronDesk();
        d.stand(4, 200);
        d.stand(2, 50);
        d.visit(1, 50, 101, 200, 0);
        d.visit(1, 50, 100, 200, 0);
        CHECK.done("17: search", d.search(), d, 3);
        CHECK.stays(d, 0, 0, 101, 200);
        CHECK.stays(d, 1, 1, 100, 200);
    }

    /** "a TRY is each time that a VISIT is looked at at a STAND": the first, the last of 24, none. */
    private static void searchTriesEachStand() {
        for (int fits = 0; fits < 24; fits++) {
            ApronDesk d = new ApronDesk();
            for (int s = 0; s < 24; s++) {
                d.stand(1, s < fits ? 49 : 50);
            }
            d.visit(1, 50, 100, 200, 0);
            CHECK.done("17: stand " + fits + " is the first", d.search(), d, fits + 1);
            CHECK.stays(d, 0, fits, 100, 200);
        }
    }

    /**
     * "if one has none (any more), another STAND is tried of the one ahead of it": 0 at stand 0, 1 at
     * 0 and 1, 2 at 0, 1, 2; 1 at 2, 2 at 0, 1, 2; then 0 at 1, 1 at 0, 2 at 0, 1, 2; 1 at 1, 2; 2 at
     * 0: that is 1 + 2 + 3 + 1 + 3 + 1 + 1 + 3 + 2 + 1.
     */
    private static void searchGoesBackToTheOneAhead() {
        ApronDesk d = new ApronDesk();
        d.stand(1, 100);
        d.stand(1, 50);
        d.stand(1, 50);
        d.visit(1, 50, 100, 200, 0);
        d.visit(1, 50, 100, 200, 0);
        d.visit(1, 51, 100, 200, 0);
        CHECK.done("17: search", d.search(), d, 18);
        CHECK.stays(d, 0, 1, 100, 200);
        CHECK.stays(d, 1, 2, 100, 200);
        CHECK.stays(d, 2, 0, 100, 200);
    }

    /**
     * "with those tried ahead of it as they are": one that was given up is nowhere any more. 0 at
     * stand 0, 1 at 0 and 1, 2 at 0 and 1; then 0 at 1, where 1 was, 1 at 0 and 2 at 0.
     */
    private static void searchWithThoseAheadAsTheyAre() {
        ApronDesk d = new ApronDesk();
        d.stand(1, 100);
        d.stand(1, 50);
        d.visit(1, 50, 10, 20, 0);
        d.visit(1, 50, 15, 30, 0);
        d.visit(1, 60, 10, 15, 0);
        CHECK.done("17: search", d.search(), d, 8);
        CHECK.stays(d, 0, 1, 10, 20);
        CHECK.stays(d, 1, 0, 15, 30);
        CHECK.stays(d, 2, 0, 10, 15);
    }

    /** "If all have a STAND, that is a WHOLE": of 40 VISITS, at one STAND. */
    private static void searchOfAsManyAsThereMayBe() {
        ApronDesk d = new ApronDesk();
        d.stand(2, 100);
        for (int v = 0; v < 40; v++) {
            d.visit(1, 50, 10 + v, 11 + v, 0);
        }
        CHECK.done("17: search", d.search(), d, 40);
        CHECK.stays(d, 39, 0, 49, 50);
        for (int v = 0; v < 40; v++) {
            d.off(v);
        }
        CHECK.done("18: most", d.most(), d, 40);
        CHECK.stays(d, 0, 0, 10, 11);
        CHECK.stays(d, 39, 0, 49, 50);
    }

    /** "11 there is no WHOLE": without a STAND, and where one VISIT has none. */
    private static void noWhole() {
        ApronDesk d = new ApronDesk();
        d.visit(1, 50, 100, 200, 0);
        CHECK.refused("17: no STAND", d.search(), d, 11);
        CHECK.refused("18: no STAND", d.most(), d, 11);
        d.stand(1, 49);
        CHECK.refused("17: too small", d.search(), d, 11);
        CHECK.refused("18: too small", d.most(), d, 11);
        d.stand(1, 50);
        CHECK.done("17: just as wide", d.search(), d, 2);
    }

    /** As busy(), with a visit that fits nowhere. */
    private static ApronDesk busyWithoutWhole() {
        ApronDesk d = Scene.busy();
        d.visit(2, 200, 300, 400, 2);
        return d;
    }

    /** STATUS 11, "changes nothing else": those tried ahead are not PUT. */
    private static void noWholeChangesNothing() {
        CHECK.refusal("17: no WHOLE", 11, EdgePlansTest::busyWithoutWhole, d -> d.search());
        CHECK.refusal("18: no WHOLE", 11, EdgePlansTest::busyWithoutWhole, d -> d.most());
    }

    /**
     * "Where a 5,001st TRY would be made they are SPENT." 23 stands; visit 2 fits at stand 8 alone,
     * and only if visits 0 and 1 are at higher ones. For each of the 9 lower ones of visit 0 there
     * are 1 + 23 + 22 * 23 TRIES; then 1 of visit 0 at stand 9, 9 * (1 + 23) of lower ones of visit
     * 1, 2 of its next ones and 9 of visit 2: 4,998. Each visit apart costs one more.
     */
    private static void spentAtThe5001stTry() {
        for (int apart = 0; apart < 3; apart++) {
            ApronDesk d = deskOfManyTries(apart);
            CHECK.done("17: at the last TRIES", d.search(), d, 4_998 + apart);
            CHECK.stays(d, 0, 9, 10, 20);
            CHECK.stays(d, 1, 10, 10, 20);
            CHECK.stays(d, 2, 8, 10, 20);
        }
        for (int apart = 3; apart < 5; apart++) {
            int more = apart;
            CHECK.refusal("17: a 5,001st TRY", 10, () -> deskOfManyTries(more), d -> d.search());
            CHECK.refusal("18: a 5,001st TRY", 10, () -> deskOfManyTries(more), d -> d.most());
        }
    }

    private static ApronDesk deskOfManyTries(int apart) {
        ApronDesk d = new ApronDesk();
        for (int s = 0; s < 23; s++) {
            d.stand(1, s == 8 ? 100 : 50);
        }
        for (int s = 0; s < 8; s++) {
            d.near(s, 8, 200, 90);
        }
        d.visit(1, 50, 10, 20, 0);
        d.visit(1, 50, 10, 20, 0);
        d.visit(1, 100, 10, 20, 0);
        for (int i = 0; i < apart; i++) {
            d.visit(1, 50, 100 + 10 * i, 110 + 10 * i, 0);
        }
        return d;
    }

    /**
     * Visits at times apart, so none hinders another: with s stands, of which f(v) are wide enough
     * for visit v, MOST makes s * (1 + f(0) * (1 + f(1) * (1 + ..))) TRIES, the last f aside; so does
     * SEARCH where the last f is 0. The last stand is the widest, and the only BRIDGE.
     */
    private static ApronDesk deskOfFits(int stands, int... fits) {
        ApronDesk d = new ApronDesk();
        for (int s = 0; s < stands; s++) {
            d.stand(s == stands - 1 ? 2 : 1, 50 + s);
        }
        for (int v = 0; v < fits.length; v++) {
            d.visit(1, 50 + stands - fits[v], 10 * v + 10, 10 * v + 20, 0);
        }
        return d;
    }

    /** STATUS 10 is ahead of 11: 5,000 TRIES tell that there is no WHOLE, 5,001 would be too many. */
    private static void spentThoughThereIsNoWhole() {
        ApronDesk just = deskOfFits(20, 3, 2, 20, 1, 0);
        CHECK.refused("17: 5,000 TRIES", just.search(), just, 11);
        CHECK.refused("18: 5,000 TRIES", just.most(), just, 11);
        ApronDesk above = deskOfFits(3, 2, 2, 1, 3, 1, 2, 1, 3, 3, 3, 1, 0);
        CHECK.refused("17: 5,001 TRIES", above.search(), above, 10);
        CHECK.refused("18: 5,001 TRIES", above.most(), above, 10);
    }

    private static ApronDesk busyAndSpent() {
        ApronDesk d = Scene.fullOfStands();
        for (int v = 0; v < 4; v++) {
            d.visit(1, 50, 2_000, 2_100, 0);
        }
        d.visit(2, 200, 300, 400, 2);
        return d;
    }

    /** STATUS 10, "changes nothing else": those tried are not PUT. */
    private static void spentChangesNothing() {
        CHECK.refusal("17: SPENT", 10, EdgePlansTest::busyAndSpent, d -> d.search());
        CHECK.refusal("18: SPENT", 10, EdgePlansTest::busyAndSpent, d -> d.most());
    }

    /** Promise 18, "how many are at BRIDGES and TWINS": of none, none. */
    private static void mostOfNone() {
        ApronDesk d = new ApronDesk();
        CHECK.done("18: a new object", d.most(), d, 0);
        ApronDesk put = new ApronDesk();
        put.stand(2, 50);
        put.visit(1, 50, 100, 200, 0);
        put.put(0, 0);
        CHECK.done("18: one that is PUT does not count", put.most(), put, 0);
        CHECK.stays(put, 0, 0, 100, 200);
        put.off(0);
        CHECK.done("18: one", put.most(), put, 1);
        CHECK.done("18: then none", put.most(), put, 0);
    }

    /** MOST: "the WHOLE with the most VISITS at BRIDGES and TWINS": both count, no other KIND does. */
    private static void mostAtBridgesAndTwins() {
        for (int kind = 1; kind <= 5; kind++) {
            ApronDesk d = new ApronDesk();
            d.stand(1, 50);
            d.stand(kind, 50);
            d.visit(1, 50, 100, 200, 0);
            boolean counts = kind == 2 || kind == 3;
            CHECK.done("18: kind " + kind, d.most(), d, counts ? 1 : 0);
            CHECK.stays(d, 0, counts ? 1 : 0, 100, 200);
        }
    }

    /** MOST: "it takes the WHOLE with the most": the most may be none, and then the first is taken. */
    private static void mostAtNone() {
        ApronDesk d = new ApronDesk();
        d.stand(2, 50);
        d.stand(1, 50);
        d.stand(4, 50);
        d.visit(3, 50, 100, 200, 0);
        d.visit(3, 50, 100, 200, 0);
        CHECK.done("18: FREIGHT", d.most(), d, 0);
        CHECK.stays(d, 0, 1, 100, 200);
        CHECK.stays(d, 1, 2, 100, 200);
    }

    /** MOST: "the first of these". */
    private static void mostTakesTheFirstOfThese() {
        ApronDesk d = new ApronDesk();
        d.stand(1, 100);
        d.stand(2, 100);
        d.stand(3, 100);
        d.stand(2, 100);
        d.visit(1, 60, 100, 200, 0);
        d.visit(1, 60, 100, 200, 0);
        CHECK.done("18: most", d.most(), d, 2);
        CHECK.stays(d, 0, 1, 100, 200);
        CHECK.stays(d, 1, 2, 100, 200);
    }

    /** "MOST goes on to the end": the best WHOLE is the last one, found by the 5,000th TRY. */
    private static void mostGoesOnToTheEnd() {
        ApronDesk d = deskOfFits(20, 3, 2, 20, 1, 2);
        CHECK.done("18: 5,000 TRIES", d.most(), d, 5);
        for (int v = 0; v < 5; v++) {
            CHECK.stays(d, v, 19, 10 * v + 10, 10 * v + 20);
        }
    }

    /** "Where a 5,001st TRY would be made they are SPENT": MOST, though it has seen a WHOLE. */
    private static void mostIsSpentThoughItHasAWhole() {
        int[] fits = {2, 2, 1, 3, 1, 2, 1, 3, 3, 3, 1, 1};
        CHECK.refusal("18: 5,001 TRIES", 10, () -> deskOfFits(3, fits), d -> d.most());
        ApronDesk d = deskOfFits(3, fits);
        CHECK.refused("18: 5,001 TRIES", d.most(), d, 10);
        CHECK.done("17: SEARCH ends with the first WHOLE", d.search(), d, 25);
    }
}
