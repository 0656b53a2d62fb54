/** The bounds of ==== 3, LATE and WAITING: promises 19 to 22. A line above each has its sentence. */
public final class EdgeLateTest {
    private static final Check CHECK = new Check();
    private static final int NONE = ApronDesk.NONE;

    public static void main(String[] args) {
        outBehindOutAndAtMost2880();
        outIs2880Already();
        rowHasNoOut();
        lateOfOneThatIsNotPut();
        outBecomesALaterMinute();
        theLastStayGoesOnTillThen();
        asLongAsSomethingIsAgainstIt();
        asManyAsThereMayBe();
        thoseBesideItGo();
        oneThatHasBegunCannotGo();
        neighbourThatHasBegunCannotGo();
        coneCannotGo();
        needCannotGo();
        cannotBeThoughOthersCouldGo();
        putAnewInOrderOfInThenByNumber();
        putAnewFromInToOut();
        allStaysGo();
        changedIfNotPut();
        changedIfAtAnotherStand();
        changedByTheFirstStay();
        changedNumbers();
        changedByTheLatestThatWasDone();
        nowFromNowTo2879();
        waitingHaveBegun();
        waitingWhileOutIsBehindNow();
        waitingAreNotPutNorUnknown();
        nowInOrderOfInThenByNumber();
        nowPutsFromNowToOut();
        nowCountsThoseThatWerePut();
        CHECK.end();
    }

    private static ApronDesk onePut(int out) {
        ApronDesk d = Scene.stands(2);
        d.visit(1, 50, 100, out, 0);
        d.put(0, 0);
        return d;
    }

    /** Promise 19, "(.. 3: not behind its OUT, above 2,880 ..)". */
    private static void outBehindOutAndAtMost2880() {
        CHECK.range("19: OUT 200", 201, 2_880, 3, () -> onePut(200), (d, x) -> d.late(0, x));
        CHECK.range("19: OUT 101", 102, 2_880, 3, () -> onePut(101), (d, x) -> d.late(0, x));
        CHECK.range("19: OUT 2,879", 2_880, 2_880, 3, () -> onePut(2_879), (d, x) -> d.late(0, x));
        CHECK.refusal("19: its IN", 3, () -> onePut(200), d -> d.late(0, 100));
        CHECK.refusal("19: 0", 3, () -> onePut(200), d -> d.late(0, 0));
    }

    /** Promise 19, "3: not behind its OUT, above 2,880": nothing is both behind 2,880 and not above. */
    private static void outIs2880Already() {
        for (int out : new int[] {2_879, 2_880, 2_881, Edge.LEAST, Edge.GREATEST}) {
            CHECK.refusal("19: OUT 2,880, late " + out, 3, () -> onePut(2_880), d -> d.late(0, out));
        }
    }

    private static ApronDesk torn(int numbers, boolean put) {
        ApronDesk d = Scene.visits(2);
        d.tear(0, numbers);
        if (put) {
            d.put(0, 0);
        }
        return d;
    }

    /** Promise 19, "3: .. or its ROW has no OUT": three numbers have none, four have. */
    private static void rowHasNoOut() {
        for (int out : new int[] {200, 201, 2_880, 2_881, Edge.LEAST, Edge.GREATEST}) {
            CHECK.refusal("19: PUT, without OUT", 3, () -> torn(3, true), d -> d.late(0, out));
            CHECK.refusal("19: not PUT, without OUT", 3, () -> torn(3, false), d -> d.late(0, out));
            CHECK.refusal("19: UNKNOWN", 3, () -> torn(2, false), d -> d.late(0, out));
            CHECK.refusal("19: an empty ROW", 3, () -> torn(0, false), d -> d.late(0, out));
        }
        ApronDesk d = torn(4, true);
        CHECK.done("19: four numbers", d.late(0, 201), d, 0);
        CHECK.stays(d, 0, 0, 100, 201);
    }

    /** Promise 19, "6: it is not PUT": behind 3. */
    private static void lateOfOneThatIsNotPut() {
        CHECK.refusal("19: 201", 6, () -> Scene.visits(2), d -> d.late(0, 201));
        CHECK.refusal("19: 2,880", 6, () -> Scene.visits(2), d -> d.late(0, 2_880));
        CHECK.refusal("19: 200", 3, () -> Scene.visits(2), d -> d.late(0, 200));
        CHECK.refusal("19: 2,881", 3, () -> Scene.visits(2), d -> d.late(0, 2_881));
    }

    /** LATE: "OUT of a PUT VISIT becomes a later MINUTE": told so, also if it has BEGUN or is over. */
    private static void outBecomesALaterMinute() {
        for (int now : new int[] {0, 99, 100, 199, 200, 201, 2_879}) {
            ApronDesk d = onePut(200);
            d.now(now);
            CHECK.done("19: late by a minute at " + now, d.late(0, 201), d, 0);
            CHECK.done("11: told", d.told(0, 3), d, 201);
            CHECK.stays(d, 0, 0, 100, 201);
            CHECK.done("19: till the end", d.late(0, 2_880), d, 0);
            CHECK.done("11: told", d.told(0, 3), d, 2_880);
            CHECK.stays(d, 0, 0, 100, 2_880);
        }
    }

    /** LATE: "its last STAY goes on till then": of two the second, the first is let be. */
    private static void theLastStayGoesOnTillThen() {
        ApronDesk d = onePut(200);
        d.tow(0, 150, 1);
        CHECK.done("19: late", d.late(0, 201), d, 0);
        CHECK.due("25: end of the first", d.stay(0, 0, 2), 155);
        CHECK.due("25: begin of the second", d.stay(0, 1, 1), 150);
        CHECK.due("25: end of the second", d.stay(0, 1, 2), 201);
        CHECK.due("24: no more", d.stays(0), 2);
    }

    /** LATE: "As long as something is against that STAY": till the other's IN nothing is, then it is. */
    private static void asLongAsSomethingIsAgainstIt() {
        for (int out = 299; out <= 301; out++) {
            ApronDesk d = onePut(200);
            d.visit(1, 50, 300, 400, 0);
            d.put(1, 0);
            CHECK.done("19: late " + out, d.late(0, out), d, out > 300 ? 1 : 0);
            CHECK.stays(d, 1, out > 300 ? 1 : 0, 300, 400);
            CHECK.stays(d, 0, 0, 100, out);
        }
    }

    /** LATE: "the VISIT BY whom it is is TAKEN OFF", again and again: all the 39 others. */
    private static void asManyAsThereMayBe() {
        ApronDesk d = Scene.stands(1);
        for (int v = 0; v < 40; v++) {
            d.visit(1, 50, 100 + 10 * v, 110 + 10 * v, 0);
            d.put(v, 0);
        }
        CHECK.done("19: till the last one's first minute", d.late(0, 491), d, 39);
        for (int k = 0; k < 39; k++) {
            CHECK.due("20: changed " + k, d.changed(k), k + 1);
            CHECK.stays(d, k + 1, NONE, 0, 0);
        }
        CHECK.due("20: changed 39", d.changed(39), NONE);
        CHECK.stays(d, 0, 0, 100, 491);
    }

    /** LATE: "3 or 5": one at the other STAND of a PAIR goes from the first MINUTE in common on. */
    private static void thoseBesideItGo() {
        for (int out = 299; out <= 301; out++) {
            ApronDesk d = onePut(200);
            d.stand(1, 200);
            d.near(0, 1, 50, 49);
            d.visit(1, 50, 300, 400, 0);
            d.put(1, 1);
            CHECK.done("19: late " + out, d.late(0, out), d, out > 300 ? 1 : 0);
            CHECK.stays(d, 1, out > 300 ? 2 : 1, 300, 400);
        }
    }

    private static ApronDesk oneAhead(int stand, int now) {
        ApronDesk d = onePut(200);
        d.visit(1, 50, 300, 400, 0);
        d.put(1, stand);
        d.near(0, 1, 0, 0);
        d.now(now);
        return d;
    }

    /** LATE: "(if it has BEGUN ..: LATE can't be)": IN 300 at NOW 299 and at 300; by TAKEN. */
    private static void oneThatHasBegunCannotGo() {
        ApronDesk d = oneAhead(0, 299);
        CHECK.done("19: at 299", d.late(0, 301), d, 1);
        CHECK.hindrance("19: at 300", 9, 5, 1, () -> oneAhead(0, 300), x -> x.late(0, 301));
        CHECK.hindrance("19: at 301", 9, 5, 1, () -> oneAhead(0, 301), x -> x.late(0, 301));
        ApronDesk other = oneAhead(0, 300);
        CHECK.done("19: till its IN", other.late(0, 300), other, 0);
    }

    /** LATE: "(if it has BEGUN ..: LATE can't be)": the same by NEIGHBOUR. */
    private static void neighbourThatHasBegunCannotGo() {
        ApronDesk d = oneAhead(1, 299);
        CHECK.done("19: at 299", d.late(0, 301), d, 1);
        CHECK.hindrance("19: at 300", 9, 3, 1, () -> oneAhead(1, 300), x -> x.late(0, 301));
        ApronDesk other = oneAhead(1, 300);
        CHECK.done("19: till its IN", other.late(0, 300), other, 0);
    }

    private static ApronDesk coneAhead() {
        ApronDesk d = onePut(200);
        d.cone(1, 0, 2_880);
        d.cone(0, 300, 301);
        return d;
    }

    /** LATE: "or it is not 3 or 5: LATE can't be": a CONE from 300 on. */
    private static void coneCannotGo() {
        for (int out = 299; out <= 300; out++) {
            ApronDesk d = coneAhead();
            CHECK.done("19: late " + out, d.late(0, out), d, 0);
        }
        CHECK.hindrance("19: late 301", 9, 4, 1, EdgeLateTest::coneAhead, d -> d.late(0, 301));
        CHECK.hindrance("19: late 2,880", 9, 4, 1, EdgeLateTest::coneAhead, d -> d.late(0, 2_880));
    }

    private static ApronDesk sleeper(int kind) {
        ApronDesk d = new ApronDesk();
        d.stand(kind, 100);
        d.stand(1, 100);
        d.visit(4, 50, 100, 1_000, 0);
        d.put(0, 0);
        return d;
    }

    /** LATE: "or it is not 3 or 5: LATE can't be": a SLEEPER at a BRIDGE or TWIN at 1,320. */
    private static void needCannotGo() {
        for (int kind = 2; kind <= 3; kind++) {
            int at = kind;
            ApronDesk d = sleeper(kind);
            CHECK.done("19: till 1,319", d.late(0, 1_319), d, 0);
            CHECK.done("19: till 1,320", d.late(0, 1_320), d, 0);
            CHECK.hindrance("19: till 1,321", 9, 2, NONE, () -> sleeper(at), x -> x.late(0, 1_321));
        }
        ApronDesk d = sleeper(4);
        CHECK.done("19: at a REMOTE", d.late(0, 1_321), d, 0);
    }

    /** Stand 0: 1 from 210 on, then 2 from 220 on, a cone at 240; stand 1 has a pair with it and 3. */
    private static ApronDesk threeInTheWay() {
        ApronDesk d = onePut(200);
        d.visit(1, 50, 210, 220, 0);
        d.visit(1, 50, 220, 230, 0);
        d.visit(1, 50, 205, 235, 0);
        d.near(0, 1, 60, 60);
        d.put(1, 0);
        d.put(2, 0);
        d.put(3, 1);
        d.near(0, 1, 0, 0);
        d.cone(0, 240, 250);
        return d;
    }

    /** "9 LATE can't be (REASON, AGAINST: what is against it that can't go)": those that could stay. */
    private static void cannotBeThoughOthersCouldGo() {
        CHECK.hindrance("19: three could", 9, 4, 0, EdgeLateTest::threeInTheWay, d -> d.late(0, 241));
        ApronDesk d = threeInTheWay();
        CHECK.done("19: without the CONE", d.late(0, 240), d, 3);
        ApronDesk again = threeInTheWay();
        CHECK.refused("19: refused first", again.late(0, 241), again, 9);
        again.visit(1, 50, 205, 235, 0);
        CHECK.hindered("19: they still hinder beside", again.put(4, 1), again, 3, 1);
        CHECK.hindered("19: and where they are", again.put(4, 0), again, 3, 3);
        CHECK.done("19: then done", again.late(0, 240), again, 3);
        CHECK.due("20: the same are CHANGED", again.changed(0), d.changed(0));
    }

    /** LATE: "those are PUT anew in order of IN, then by number". */
    private static void putAnewInOrderOfInThenByNumber() {
        ApronDesk d = new ApronDesk();
        d.stand(3, 100);
        d.stand(1, 200);
        d.visit(1, 50, 301, 400, 0);
        d.visit(1, 50, 300, 350, 0);
        d.visit(1, 50, 350, 400, 0);
        d.visit(1, 50, 350, 400, 0);
        d.visit(1, 51, 100, 200, 0);
        for (int v = 0; v < 3; v++) {
            d.put(v, 0);
        }
        d.put(4, 0);
        d.put(3, 1);
        CHECK.done("19: late", d.late(4, 360), d, 3);
        CHECK.due("20: IN 300", d.changed(0), 1);
        CHECK.due("20: IN 301", d.changed(1), 0);
        CHECK.due("20: IN 350", d.changed(2), 2);
        CHECK.stays(d, 1, 1, 300, 350);
        CHECK.stays(d, 0, NONE, 0, 0);
        CHECK.stays(d, 2, NONE, 0, 0);
        CHECK.stays(d, 3, 1, 350, 400);
        sameInThenByNumber();
    }

    private static void sameInThenByNumber() {
        ApronDesk d = new ApronDesk();
        d.stand(3, 100);
        d.stand(1, 200);
        d.visit(1, 50, 300, 400, 0);
        d.visit(1, 50, 300, 400, 0);
        d.visit(1, 51, 100, 200, 0);
        d.put(1, 0);
        d.put(0, 0);
        d.put(2, 0);
        CHECK.done("19: late", d.late(2, 301), d, 2);
        CHECK.due("20: the least number", d.changed(0), 0);
        CHECK.due("20: the next number", d.changed(1), 1);
        CHECK.stays(d, 0, 1, 300, 400);
        CHECK.stays(d, 1, NONE, 0, 0);
    }

    /** LATE: "at their BEST STAND from IN to OUT", also one that has no OUT, till 2,880. */
    private static void putAnewFromInToOut() {
        ApronDesk d = onePut(200);
        d.visit(1, 50, 300, 400, 0);
        d.tear(1, 3);
        d.put(1, 0);
        CHECK.done("19: late", d.late(0, 301), d, 1);
        CHECK.stays(d, 1, 1, 300, 2_880);
    }

    /** "(TAKEN OFF: all STAYS go.)": one with eight STAYS has one again. */
    private static void allStaysGo() {
        ApronDesk d = Scene.eightStays();
        d.visit(1, 50, 10, 20, 0);
        d.put(1, 1);
        CHECK.done("24: eight", d.stays(0), d, 8);
        CHECK.done("19: late", d.late(1, 111), d, 0);
        CHECK.stays(d, 0, 0, 100, 1_000);
        CHECK.stays(d, 1, 1, 10, 111);
    }

    /** "CHANGED are .. those of them that are not PUT". */
    private static void changedIfNotPut() {
        ApronDesk d = onePut(200);
        d.cone(1, 350, 351);
        d.visit(1, 50, 300, 350, 0);
        d.visit(1, 50, 350, 400, 0);
        d.put(1, 0);
        d.put(2, 0);
        CHECK.done("19: late", d.late(0, 351), d, 2);
        CHECK.stays(d, 1, 1, 300, 350);
        CHECK.stays(d, 2, NONE, 0, 0);
        CHECK.due("20: at another STAND", d.changed(0), 1);
        CHECK.due("20: not PUT", d.changed(1), 2);
    }

    /** "CHANGED are .. or at another STAND": one that comes back where it was is not. */
    private static void changedIfAtAnotherStand() {
        ApronDesk d = new ApronDesk();
        d.stand(3, 100);
        d.stand(1, 200);
        d.visit(1, 50, 300, 310, 0);
        d.visit(1, 50, 309, 400, 0);
        d.visit(1, 50, 100, 200, 0);
        d.put(0, 0);
        d.put(1, 0);
        d.put(2, 0);
        CHECK.done("19: a third at 309", d.late(2, 310), d, 1);
        CHECK.due("20: 0 has gone to the other STAND", d.changed(0), 0);
        CHECK.stays(d, 0, 1, 300, 310);
        ApronDesk back = backWhereItWas();
        CHECK.done("19: 0 and 1 go, 0 comes back", back.late(3, 300), back, 1);
        CHECK.due("20: 1 alone", back.changed(0), 1);
        CHECK.due("20: not 0", back.changed(1), NONE);
        CHECK.stays(back, 0, 0, 200, 220);
        CHECK.stays(back, 1, 1, 200, 260);
        CHECK.stays(back, 2, 0, 230, 260);
        CHECK.stays(back, 3, 0, 100, 300);
    }

    /** Visit 0 goes because of 1, which then goes because of 2: so 0 can be back. */
    private static ApronDesk backWhereItWas() {
        ApronDesk d = new ApronDesk();
        d.stand(3, 100);
        d.stand(1, 60);
        d.visit(1, 40, 200, 220, 0);
        d.visit(1, 40, 200, 260, 0);
        d.visit(1, 40, 230, 260, 0);
        d.visit(1, 40, 100, 150, 0);
        for (int v = 0; v < 4; v++) {
            d.put(v, 0);
        }
        return d;
    }

    /** "CHANGED are .. at another STAND than their first STAY had": its last STAY's does not count. */
    private static void changedByTheFirstStay() {
        for (int first = 0; first <= 1; first++) {
            ApronDesk d = new ApronDesk();
            d.stand(1, 100);
            d.stand(2, 100);
            d.stand(4, 100);
            d.visit(1, 50, 100, 200, 0);
            d.visit(1, 50, 210, 400, 0);
            d.put(0, 0);
            d.put(1, first == 0 ? 1 : 2);
            d.tow(1, 300, 0);
            CHECK.done("19: late", d.late(0, 301), d, first);
            CHECK.stays(d, 1, 1, 210, 400);
        }
    }

    /** Promise 20, "The k-th of those CHANGED ..; NONE if there is none such". */
    private static void changedNumbers() {
        ApronDesk d = threeInTheWay();
        for (int k : Edge.outside(0, 2)) {
            CHECK.due("20: before any late()", d.changed(k), NONE);
        }
        CHECK.due("20: before any late()", d.changed(0), NONE);
        d.late(0, 240);
        int[] due = {3, 1, 2};
        for (int k = 0; k < due.length; k++) {
            CHECK.due("20: changed " + k, d.changed(k), due[k]);
        }
        d.stand(0, 0);
        for (int k : Edge.outside(0, 2)) {
            CHECK.due("20: changed " + k, d.changed(k), NONE);
        }
        CHECK.due("20: no STATUS", d.status(), 3);
    }

    /** Promise 20, "CHANGED by the latest late() that was done": refused ones leave them. */
    private static void changedByTheLatestThatWasDone() {
        ApronDesk d = threeInTheWay();
        d.late(0, 240);
        int[] refused = {d.late(9, 300), d.late(0, 240), d.late(0, 241), d.late(1, 300)};
        for (int answer : refused) {
            CHECK.due("19: refused", answer, NONE);
        }
        CHECK.due("20: changed 0", d.changed(0), 3);
        CHECK.due("20: changed 2", d.changed(2), 2);
        d.now(2_000);
        d.plan();
        CHECK.due("20: changed 2, by no other call", d.changed(2), 2);
        d.visit(1, 50, 2_100, 2_200, 0);
        d.put(4, 1);
        CHECK.done("19: one that changes none", d.late(4, 2_201), d, 0);
        CHECK.due("20: none", d.changed(0), NONE);
        CHECK.due("20: none", d.changed(2), NONE);
    }

    private static ApronDesk at100() {
        ApronDesk d = Scene.stands(2);
        d.now(100);
        return d;
    }

    /** Promise 21, "NOW is a MINUTE (3: below NOW, above 2,879)". */
    private static void nowFromNowTo2879() {
        CHECK.range("21: NOW 100", 100, 2_879, 3, EdgeLateTest::at100, (d, x) -> d.now(x));
        CHECK.range("21: NOW 0", 0, 2_879, 3, () -> Scene.stands(2), (d, x) -> d.now(x));
        CHECK.range("21: busy", 100, 2_879, 3, Scene::busy, (d, x) -> d.now(x));
        ApronDesk d = at100();
        d.now(2_879);
        CHECK.refused("21: back", d.now(2_878), d, 3);
        CHECK.refused("21: behind the last", d.now(2_880), d, 3);
        CHECK.done("21: the last again", d.now(2_879), d, 0);
    }

    /** "WAITING are VISITS that .. have BEGUN": IN 100, NOW 99, 100, 101. */
    private static void waitingHaveBegun() {
        for (int now = 99; now <= 101; now++) {
            ApronDesk d = new ApronDesk();
            d.visit(1, 50, 100, 200, 0);
            d.now(now);
            CHECK.due("22: at " + now, d.waiting(), now < 100 ? 0 : 1);
        }
    }

    /** "WAITING are VISITS .. whose OUT is behind NOW": OUT 200, NOW 199, 200, 201; and no OUT. */
    private static void waitingWhileOutIsBehindNow() {
        for (int now = 199; now <= 201; now++) {
            ApronDesk d = new ApronDesk();
            d.visit(1, 50, 100, 200, 0);
            d.now(now);
            CHECK.due("22: at " + now, d.waiting(), now < 200 ? 1 : 0);
            d.stand(1, 50);
            CHECK.done("21: at " + now, d.now(now), d, now < 200 ? 1 : 0);
            CHECK.stays(d, 0, now < 200 ? 0 : NONE, now, 200);
        }
        ApronDesk d = new ApronDesk();
        d.visit(1, 50, 100, 200, 0);
        d.tear(0, 3);
        d.now(2_879);
        CHECK.due("22: without OUT, at the last MINUTE", d.waiting(), 1);
    }

    /** "WAITING are VISITS that are not PUT nor UNKNOWN". */
    private static void waitingAreNotPutNorUnknown() {
        ApronDesk d = Scene.visits(4);
        d.put(0, 3);
        d.tear(1, 2);
        d.tear(2, 3);
        d.cone(0, 0, 2_880);
        d.cone(1, 0, 2_880);
        d.cone(2, 0, 2_880);
        CHECK.done("21: none can be PUT", d.now(100), d, 0);
        CHECK.due("22: two of four", d.waiting(), 2);
        d.tear(2, 2);
        CHECK.due("22: torn while it waits", d.waiting(), 1);
        d.stand(0, 0);
        d.waiting();
        CHECK.due("22: no STATUS", d.status(), 3);
    }

    /** Promise 21, "those WAITING, in order of IN, then by number". */
    private static void nowInOrderOfInThenByNumber() {
        ApronDesk d = Scene.stands(2);
        d.visit(1, 50, 100, 200, 0);
        d.visit(1, 50, 99, 200, 0);
        d.visit(1, 50, 100, 200, 0);
        d.visit(1, 50, 101, 200, 0);
        CHECK.done("21: now", d.now(101), d, 2);
        CHECK.stays(d, 0, 1, 101, 200);
        CHECK.stays(d, 1, 0, 101, 200);
        CHECK.stays(d, 2, NONE, 0, 0);
        CHECK.stays(d, 3, NONE, 0, 0);
        CHECK.due("22: two are left", d.waiting(), 2);
    }

    /** Promise 21, "are PUT at their BEST STAND from NOW to OUT": at the last of its MINUTES, too. */
    private static void nowPutsFromNowToOut() {
        for (int now : new int[] {100, 101, 198, 199}) {
            ApronDesk d = Scene.visits(1);
            d.cone(0, 50, 100);
            CHECK.done("21: now " + now, d.now(now), d, 1);
            CHECK.stays(d, 0, 0, now, 200);
        }
        ApronDesk d = Scene.visits(1);
        d.cone(0, 50, 150);
        CHECK.done("21: a CONE till 150", d.now(149), d, 0);
        CHECK.done("21: it has gone", d.now(150), d, 1);
        CHECK.stays(d, 0, 0, 150, 200);
        ApronDesk sleeper = new ApronDesk();
        sleeper.stand(2, 50);
        sleeper.visit(4, 50, 1_400, 1_600, 0);
        CHECK.done("21: a SLEEPER by night", sleeper.now(1_559), sleeper, 0);
        CHECK.done("21: the night is over", sleeper.now(1_560), sleeper, 1);
    }

    /** Promise 21, "if there is one: how many were": none, some, and all of 40. */
    private static void nowCountsThoseThatWerePut() {
        ApronDesk d = new ApronDesk();
        for (int v = 0; v < 40; v++) {
            d.visit(1, 50, 100, 200, 0);
        }
        CHECK.done("21: not yet", d.now(99), d, 0);
        CHECK.done("21: no STAND", d.now(100), d, 0);
        CHECK.due("22: all wait", d.waiting(), 40);
        for (int s = 0; s < 24; s++) {
            d.stand(3, 100);
        }
        CHECK.done("21: two at each TWIN", d.now(100), d, 40);
        CHECK.stays(d, 39, 19, 100, 200);
        CHECK.due("22: none waits", d.waiting(), 0);
    }
}
