/** The bounds that promises 12 to 15 and 23 to 27 name; those of ==== 2 are in EdgeAgainstTest. */
public final class EdgeStaysTest {
    private static final Check CHECK = new Check();
    private static final int NONE = ApronDesk.NONE;

    public static void main(String[] args) {
        putOfEachVisitAndStand();
        putOfOneThatHasBegun();
        putAgain();
        putFromInToOut();
        whyOfEachVisitAndStand();
        whyTellsReasonIfItIsNot0();
        offOfEachVisit();
        offOfOneThatHasBegun();
        towOfEachVisitAndStand();
        towToItsOwnStand();
        towBehindTheLastStaysBegin();
        towBehindNow();
        towEndsAheadOfOut();
        towEndsAheadOf2880WithoutOut();
        towTimeOfOneMinute();
        towAgainstTheNewStay();
        towOfEightStays();
        swapOfEachVisit();
        swapOfOneStayEach();
        swapOfOnesThatHaveBegun();
        swapBothAway();
        swapTheFirstOneThere();
        swapKeepsSpans();
        swapLooksAtTheSpansAlone();
        swapLeavesBothThere();
        staysOfEachVisit();
        stayNumbers();
        atStands();
        atNumbers();
        atWithACone();
        atWhenItHasGone();
        crowdWings();
        crowdNumbers();
        crowdForThatMinuteAlone();
        crowdForAPlaneWithoutNeed();
        CHECK.end();
    }

    /** Promise 12, "A VISIT is PUT at a STAND .. (1, 2 ..)". */
    private static void putOfEachVisitAndStand() {
        CHECK.range("12: stand", 0, 2, 1, () -> Scene.visits(3), (d, x) -> Edge.flag(d.put(0, x)));
        CHECK.range("12: visit", 0, 2, 2, () -> Scene.visits(3), (d, x) -> Edge.flag(d.put(x, 0)));
        CHECK.range("12: stand of 24", 0, 23, 1, EdgeStaysTest::fullGround, (d, x) -> Edge.flag(d.put(0, x)));
        CHECK.range("12: visit of 40", 0, 39, 2, EdgeStaysTest::fullDay, (d, x) -> Edge.flag(d.put(x, 0)));
    }

    private static ApronDesk fullGround() {
        ApronDesk d = Scene.stands(24);
        d.visit(1, 50, 100, 200, 0);
        return d;
    }

    private static ApronDesk fullDay() {
        ApronDesk d = Scene.stands(2);
        for (int v = 0; v < 40; v++) {
            d.visit(1, 50, 100, 200, 0);
        }
        return d;
    }

    private static ApronDesk at(int now, ApronDesk d) {
        d.now(now);
        return d;
    }

    /** Promise 12, "(.. 7 ..)": IN 100 at NOW 99 and, while it waits, at 100. */
    private static void putOfOneThatHasBegun() {
        ApronDesk d = at(99, Scene.visits(1));
        CHECK.done("12: at 99", d.put(0, 0), d);
        for (int now : new int[] {100, 101, 199, 200, 2_879}) {
            CHECK.refusal("12: at " + now, 7, () -> oneThatWaited(now), x -> Edge.flag(x.put(0, 1)));
        }
    }

    private static ApronDesk oneThatWaited(int now) {
        ApronDesk d = new ApronDesk();
        d.stand(1, 10);
        d.stand(1, 10);
        d.visit(1, 50, 100, 200, 0);
        d.now(now);
        return d;
    }

    /** Promise 12, "(.. 6 ..)": at the same and at another STAND. */
    private static void putAgain() {
        CHECK.refusal("12: the same", 6, () -> Scene.allPut(2), d -> Edge.flag(d.put(0, 0)));
        ApronDesk d = Scene.visits(3);
        d.put(0, 0);
        CHECK.refused("12: another", d.put(0, 2), d, 6);
        CHECK.stays(d, 0, 0, 100, 200);
        d.off(0);
        CHECK.done("12: when it was TAKEN OFF", d.put(0, 2), d);
        CHECK.stays(d, 0, 2, 100, 200);
    }

    /** Promise 12, "from IN to OUT": from the first MINUTE that can be to the last. */
    private static void putFromInToOut() {
        int[][] spans = {{1, 2}, {1, 2_880}, {2_879, 2_880}, {100, 2_879}};
        for (int[] span : spans) {
            ApronDesk d = Scene.stands(1);
            d.visit(1, 50, span[0], span[1], 0);
            CHECK.done("12: put", d.put(0, 0), d);
            CHECK.stays(d, 0, 0, span[0], span[1]);
        }
    }

    /** Promise 13, "(1, 2, 5)". */
    private static void whyOfEachVisitAndStand() {
        CHECK.range("13: stand", 0, 2, 1, () -> Scene.visits(3), (d, x) -> d.why(0, x));
        CHECK.range("13: visit", 0, 2, 2, () -> Scene.visits(3), (d, x) -> d.why(x, 0));
        CHECK.range("13: stand of 24", 0, 23, 1, EdgeStaysTest::fullGround, (d, x) -> d.why(0, x));
        CHECK.range("13: visit of 40", 0, 39, 2, EdgeStaysTest::fullDay, (d, x) -> d.why(x, 0));
    }

    /** Promise 13, "0 nothing; REASON and AGAINST as for 8 if it is not 0". */
    private static void whyTellsReasonIfItIsNot0() {
        ApronDesk d = Scene.visits(2);
        CHECK.done("13: nothing", d.why(0, 0), d, 0);
        CHECK.because("13: nothing yet", d, 0, NONE);
        d.put(0, 0);
        CHECK.done("13: something", d.why(1, 0), d, 5);
        CHECK.because("13: something", d, 5, 0);
        CHECK.done("13: nothing again", d.why(1, 1), d, 0);
        CHECK.because("13: the same REASON", d, 5, 0);
        CHECK.stays(d, 1, NONE, 0, 0);
    }

    /** Promise 14, "A PUT VISIT is TAKEN OFF (2, 6 ..)". */
    private static void offOfEachVisit() {
        CHECK.range("14: visit", 0, 2, 2, () -> Scene.allPut(3), (d, x) -> Edge.flag(d.off(x)));
        ApronDesk d = Scene.allPut(2);
        CHECK.done("14: once", d.off(0), d);
        CHECK.refused("14: twice", d.off(0), d, 6);
        CHECK.stays(d, 1, 1, 100, 200);
    }

    /** Promise 14, "(.. 7)": IN 100 at NOW 99, 100, 101. */
    private static void offOfOneThatHasBegun() {
        ApronDesk d = at(99, Scene.allPut(2));
        CHECK.done("14: at 99", d.off(0), d);
        for (int now : new int[] {100, 101, 200, 2_879}) {
            CHECK.refusal("14: at " + now, 7, () -> at(now, Scene.allPut(2)), x -> Edge.flag(x.off(0)));
        }
    }

    /** Three stands that are free, visits 0 to 2 at 0 to 2. */
    private static ApronDesk towable() {
        ApronDesk d = Scene.stands(6);
        for (int v = 0; v < 3; v++) {
            d.visit(1, 50, 100, 200, 0);
            d.put(v, v);
        }
        return d;
    }

    /** Promise 15, "(1; 2 ..)": STATUS 1 outside of STANDS, 2 outside of VISITS. */
    private static void towOfEachVisitAndStand() {
        for (int x : Edge.outside(0, 5)) {
            CHECK.refusal("15: stand " + x, 1, EdgeStaysTest::towable, d -> Edge.flag(d.tow(0, 150, x)));
        }
        CHECK.range("15: visit", 0, 2, 2, EdgeStaysTest::towable, (d, x) -> Edge.flag(d.tow(x, 150, 5)));
        for (int s = 3; s < 6; s++) {
            ApronDesk d = towable();
            CHECK.done("15: stand " + s, d.tow(0, 150, s), d);
            CHECK.due("15: it is there", d.stay(0, 1, 0), s);
        }
    }

    /** Promise 15, "3: the last STAY is at this STAND": of the STAYS the last one counts alone. */
    private static void towToItsOwnStand() {
        CHECK.refusal("15: own", 3, EdgeStaysTest::towable, d -> Edge.flag(d.tow(0, 150, 0)));
        ApronDesk d = towable();
        d.tow(0, 150, 5);
        CHECK.refused("15: where it was towed", d.tow(0, 160, 5), d, 3);
        CHECK.done("15: where it was first", d.tow(0, 160, 0), d);
    }

    /** Promise 15, "or doesn't begin ahead of the MINUTE": of the first STAY and of the second. */
    private static void towBehindTheLastStaysBegin() {
        CHECK.range("15: begins at 100", 101, 194, 3, EdgeStaysTest::towable,
                (d, x) -> Edge.flag(d.tow(0, x, 5)));
        CHECK.range("15: begins at 150", 151, 194, 3, () -> towedAt(150),
                (d, x) -> Edge.flag(d.tow(0, x, 4)));
    }

    private static ApronDesk towedAt(int minute) {
        ApronDesk d = towable();
        d.tow(0, minute, 5);
        return d;
    }

    /** Promise 15, "or that is not behind NOW": NOW ahead of the begin, at it and behind it. */
    private static void towBehindNow() {
        int[][] nows = {{0, 101}, {99, 101}, {100, 101}, {101, 102}, {120, 121}, {193, 194}};
        for (int[] now : nows) {
            CHECK.range("15: NOW " + now[0], now[1], 194, 3, () -> at(now[0], towable()),
                    (d, x) -> Edge.flag(d.tow(0, x, 5)));
        }
        for (int minute = 190; minute <= 200; minute++) {
            int x = minute;
            CHECK.refusal("15: NOW 194", 3, () -> at(194, towable()), d -> Edge.flag(d.tow(0, x, 5)));
        }
    }

    private static ApronDesk towtime(int minutes, ApronDesk d) {
        d.towtime(minutes);
        return d;
    }

    /** Promise 15, "or OUT (2,880 without) is not behind the TOW's end": TOWTIME 1, 5, 60, OUT 200. */
    private static void towEndsAheadOfOut() {
        for (int minutes : new int[] {1, 2, 5, 59, 60}) {
            CHECK.range("15: TOWTIME " + minutes, 101, 199 - minutes, 3,
                    () -> towtime(minutes, towable()), (d, x) -> Edge.flag(d.tow(0, x, 5)));
            ApronDesk d = towtime(minutes, towable());
            CHECK.done("15: the last MINUTE", d.tow(0, 199 - minutes, 5), d);
            CHECK.due("15: it ends one ahead of OUT", d.stay(0, 0, 2), 199);
            CHECK.due("15: the new one begins", d.stay(0, 1, 1), 199 - minutes);
            CHECK.due("15: and goes to OUT", d.stay(0, 1, 2), 200);
        }
        ApronDesk d = Scene.stands(2);
        d.visit(1, 50, 100, 106, 0);
        d.visit(1, 50, 200, 207, 0);
        d.put(0, 0);
        d.put(1, 0);
        CHECK.refused("15: six MINUTES are too few", d.tow(0, 101, 1), d, 3);
        CHECK.done("15: seven are enough", d.tow(1, 201, 1), d);
    }

    private static ApronDesk towableWithoutOut() {
        ApronDesk d = Scene.stands(3);
        d.visit(1, 50, 100, 200, 0);
        d.tear(0, 3);
        d.put(0, 0);
        return d;
    }

    /** Promise 15, "OUT (2,880 without)". */
    private static void towEndsAheadOf2880WithoutOut() {
        CHECK.range("15: without OUT", 101, 2_874, 3, EdgeStaysTest::towableWithoutOut,
                (d, x) -> Edge.flag(d.tow(0, x, 2)));
        ApronDesk d = towableWithoutOut();
        d.tow(0, 2_874, 2);
        CHECK.due("15: it ends", d.stay(0, 0, 2), 2_879);
        CHECK.due("15: the new one goes", d.stay(0, 1, 2), 2_880);
    }

    /** Promise 15, "its last STAY ends TOWTIME behind that MINUTE": counted at both till then. */
    private static void towTimeOfOneMinute() {
        ApronDesk d = towtime(1, towable());
        CHECK.done("15: tow", d.tow(0, 101, 5), d);
        int[][] there = {{100, 0, NONE}, {101, 0, 0}, {102, NONE, 0}, {199, NONE, 0}, {200, NONE, NONE}};
        for (int[] row : there) {
            CHECK.due("26: the old at " + row[0], d.at(0, row[0], 0), row[1]);
            CHECK.due("26: the new at " + row[0], d.at(5, row[0], 0), row[2]);
        }
    }

    private static ApronDesk towableWithACone(int from, int to) {
        ApronDesk d = towable();
        d.cone(5, from, to);
        return d;
    }

    /** Promise 15, "8: against the new one": its SPAN is from the MINUTE to OUT. */
    private static void towAgainstTheNewStay() {
        ApronDesk ahead = towableWithACone(100, 150);
        CHECK.done("15: a CONE till the MINUTE", ahead.tow(0, 150, 5), ahead);
        ApronDesk behind = towableWithACone(200, 300);
        CHECK.done("15: a CONE from OUT on", behind.tow(0, 150, 5), behind);
        CHECK.hindrance("15: till one behind the MINUTE", 8, 4, 0, () -> towableWithACone(100, 151),
                d -> Edge.flag(d.tow(0, 150, 5)));
        CHECK.hindrance("15: from one ahead of OUT", 8, 4, 0, () -> towableWithACone(199, 300),
                d -> Edge.flag(d.tow(0, 150, 5)));
        CHECK.hindrance("15: TAKEN", 8, 5, 1, EdgeStaysTest::towable, d -> Edge.flag(d.tow(0, 150, 1)));
    }

    /** Promise 15, "4: it has eight STAYS": with seven it can be towed. */
    private static void towOfEightStays() {
        ApronDesk d = Scene.eightStays();
        CHECK.refused("15: eight", d.tow(0, 500, 2), d, 4);
        d.off(0);
        d.put(0, 0);
        for (int k = 1; k < 7; k++) {
            d.tow(0, 100 + 10 * k, k % 2);
        }
        CHECK.done("24: seven", d.stays(0), d, 7);
        CHECK.done("15: seven", d.tow(0, 500, 2), d);
        CHECK.done("24: eight", d.stays(0), d, 8);
    }

    /** Promise 23, "(2: no such, or the same one twice ..)". */
    private static void swapOfEachVisit() {
        for (int a = 0; a < 3; a++) {
            for (int b = 0; b < 3; b++) {
                ApronDesk d = Scene.allPut(3);
                if (a == b) {
                    CHECK.refused("23: twice " + a, d.swap(a, b), d, 2);
                } else {
                    CHECK.done("23: " + a + " and " + b, d.swap(a, b), d);
                    CHECK.stays(d, a, b, 100, 200);
                    CHECK.stays(d, b, a, 100, 200);
                }
            }
        }
        for (int x : Edge.outside(0, 2)) {
            CHECK.refusal("23: a is " + x, 2, () -> Scene.allPut(3), d -> Edge.flag(d.swap(x, 0)));
            CHECK.refusal("23: b is " + x, 2, () -> Scene.allPut(3), d -> Edge.flag(d.swap(0, x)));
            CHECK.refusal("23: both are " + x, 2, () -> Scene.allPut(3), d -> Edge.flag(d.swap(x, x)));
        }
    }

    /** Promise 23, "each with one STAY .. (.. 6: another number of STAYS ..)": none, one, two. */
    private static void swapOfOneStayEach() {
        for (int stays = 0; stays <= 2; stays++) {
            ApronDesk d = towable();
            if (stays == 0) {
                d.off(0);
            }
            if (stays == 2) {
                d.tow(0, 150, 5);
            }
            if (stays == 1) {
                CHECK.done("23: one", d.swap(0, 1), d);
                CHECK.done("23: one, the other way", d.swap(1, 0), d);
            } else {
                CHECK.refused("23: " + stays, d.swap(0, 1), d, 6);
                CHECK.refused("23: " + stays + ", the other way", d.swap(1, 0), d, 6);
            }
            CHECK.stays(d, 1, 1, 100, 200);
        }
    }

    private static ApronDesk twoOfUnlikeBegin(int now) {
        ApronDesk d = Scene.stands(2);
        d.visit(1, 50, 100, 200, 0);
        d.visit(1, 50, 102, 200, 0);
        d.put(0, 0);
        d.put(1, 1);
        d.now(now);
        return d;
    }

    /** Promise 23, "(.. 7 ..)": one of them has BEGUN, whichever; IN 100, NOW 99, 100, 101, 102. */
    private static void swapOfOnesThatHaveBegun() {
        ApronDesk d = twoOfUnlikeBegin(99);
        CHECK.done("23: at 99", d.swap(0, 1), d);
        for (int now = 100; now <= 103; now++) {
            int x = now;
            CHECK.refusal("23: at " + now, 7, () -> twoOfUnlikeBegin(x), y -> Edge.flag(y.swap(0, 1)));
            CHECK.refusal("23: at " + now, 7, () -> twoOfUnlikeBegin(x), y -> Edge.flag(y.swap(1, 0)));
        }
    }

    /** The first, of WING 50, is at a stand as wide, the second, of 49, at one of this size. */
    private static ApronDesk unlikeStands(int size) {
        ApronDesk d = new ApronDesk();
        d.stand(1, 50);
        d.stand(1, size);
        d.visit(1, 50, 100, 200, 0);
        d.visit(1, 49, 100, 200, 0);
        d.put(0, 0);
        d.put(1, 1);
        return d;
    }

    /** Promise 23, "8: against the first one's STAY at the second's STAND, both away". */
    private static void swapBothAway() {
        ApronDesk d = unlikeStands(50);
        CHECK.done("23: just as wide", d.swap(0, 1), d);
        CHECK.hindrance("23: one less, the first's", 8, 1, NONE, () -> unlikeStands(49),
                x -> Edge.flag(x.swap(0, 1)));
        CHECK.hindrance("23: one less, the second's", 8, 1, NONE, () -> unlikeStands(49),
                x -> Edge.flag(x.swap(1, 0)));
        ApronDesk near = Scene.allPut(2);
        near.near(0, 1, 50, 50);
        CHECK.done("23: neighbours within their LIMITS", near.swap(0, 1), near);
    }

    private static ApronDesk neighbours() {
        ApronDesk d = Scene.stands(2);
        d.near(0, 1, 50, 50);
        d.visit(1, 50, 100, 200, 0);
        d.visit(1, 50, 199, 300, 0);
        d.put(0, 0);
        d.put(1, 1);
        return d;
    }

    private static ApronDesk neighboursOfLater() {
        ApronDesk d = Scene.allPut(2);
        d.near(0, 1, 49, 200);
        return d;
    }

    /** Promise 23, "then against the second's at the first's, the first one there". */
    private static void swapTheFirstOneThere() {
        ApronDesk d = neighbours();
        CHECK.done("23: within the LIMITS", d.swap(0, 1), d);
        CHECK.hindrance("23: by the first", 8, 3, 0, EdgeStaysTest::neighboursOfLater,
                x -> Edge.flag(x.swap(0, 1)));
        CHECK.hindrance("23: by the first, the other way", 8, 3, 1, EdgeStaysTest::neighboursOfLater,
                x -> Edge.flag(x.swap(1, 0)));
    }

    /** Promise 23, "change STANDS": each keeps its SPAN; a CONE within one of them alone. */
    private static void swapKeepsSpans() {
        for (int from = 198; from <= 200; from++) {
            ApronDesk d = Scene.stands(2);
            d.visit(1, 50, 100, 200, 0);
            d.visit(1, 50, 200, 300, 0);
            d.put(0, 0);
            d.put(1, 1);
            d.cone(1, from, from + 1);
            if (from < 200) {
                CHECK.hindered("23: a CONE at " + from, d.swap(0, 1), d, 4, 0);
            } else {
                CHECK.done("23: a CONE at 200", d.swap(0, 1), d);
                CHECK.stays(d, 0, 1, 100, 200);
                CHECK.stays(d, 1, 0, 200, 300);
            }
        }
    }

    /** Promise 23, "against the first one's STAY at the second's STAND": no MINUTE ahead or behind. */
    private static void swapLooksAtTheSpansAlone() {
        ApronDesk d = Scene.stands(2);
        d.visit(1, 50, 100, 200, 0);
        d.visit(1, 50, 200, 300, 0);
        d.put(0, 0);
        d.put(1, 1);
        d.cone(1, 0, 100);
        d.cone(1, 200, 2_880);
        d.cone(0, 0, 200);
        d.cone(0, 300, 2_880);
        CHECK.done("23: CONES all around", d.swap(0, 1), d);
        CHECK.stays(d, 0, 1, 100, 200);
        CHECK.stays(d, 1, 0, 200, 300);
    }

    /** Promise 23, "both away": for that look alone; then both are in the way of others. */
    private static void swapLeavesBothThere() {
        ApronDesk d = Scene.allPut(2);
        d.visit(1, 50, 150, 160, 0);
        CHECK.done("23: swap", d.swap(0, 1), d);
        CHECK.hindered("23: the second is there", d.put(2, 0), d, 5, 1);
        CHECK.hindered("23: the first is there", d.put(2, 1), d, 5, 0);
        d.near(0, 1, 0, 0);
        CHECK.refused("23: not back", d.swap(0, 1), d, 8);
        CHECK.hindered("23: both are there still", d.put(2, 0), d, 3, 0);
        CHECK.due("26: the first", d.at(1, 199, 0), 0);
        CHECK.due("26: the second", d.at(0, 199, 0), 1);
    }

    /** Promise 24, "How many STAYS a VISIT has (2)". */
    private static void staysOfEachVisit() {
        CHECK.range("24: visit of three", 0, 2, 2, () -> Scene.visits(3), (d, x) -> d.stays(x));
        CHECK.range("24: visit of 40", 0, 39, 2, EdgeStaysTest::fullDay, (d, x) -> d.stays(x));
    }

    /** Promise 25, "Of STAY k of a VISIT, what 0 .. 1 .. 2 .. (2; 3: no such)". */
    private static void stayNumbers() {
        CHECK.range("25: visit", 0, 2, 2, () -> Scene.allPut(3), (d, x) -> d.stay(x, 0, 0));
        CHECK.range("25: k of one", 0, 0, 3, () -> Scene.allPut(3), (d, x) -> d.stay(0, x, 0));
        CHECK.range("25: k of two", 0, 1, 3, () -> towedAt(150), (d, x) -> d.stay(0, x, 1));
        CHECK.range("25: k of eight", 0, 7, 3, Scene::eightStays, (d, x) -> d.stay(0, x, 2));
        CHECK.range("25: what", 0, 2, 3, () -> towedAt(150), (d, x) -> d.stay(0, 1, x));
        for (int k : new int[] {0, 1, 7, 8, -1, Edge.LEAST, Edge.GREATEST}) {
            CHECK.refusal("25: k of none", 3, () -> Scene.visits(3), d -> d.stay(0, k, 0));
        }
        CHECK.refusal("25: neither", 3, () -> Scene.allPut(3), d -> d.stay(0, 1, 3));
    }

    /** Promise 26, "NONE else, or for what can't be": no such STAND. */
    private static void atStands() {
        ApronDesk d = Scene.allPut(3);
        d.cone(0, 0, 2_880);
        d.cone(1, 0, 2_880);
        d.cone(2, 0, 2_880);
        for (int s = 0; s < 3; s++) {
            CHECK.due("26: stand " + s, d.at(s, 150, 0), s);
            CHECK.due("26: its cone", d.at(s, 99, 0), -2);
        }
        for (int s : Edge.outside(0, 2)) {
            CHECK.due("26: no such stand " + s, d.at(s, 150, 0), NONE);
        }
    }

    /** Promise 26, "The k-th VISIT, by numbers": two at a TWIN, and k beside them. */
    private static void atNumbers() {
        ApronDesk d = new ApronDesk();
        d.stand(3, 100);
        d.visit(1, 50, 150, 250, 0);
        d.visit(1, 50, 100, 200, 0);
        d.put(1, 0);
        d.put(0, 0);
        int[][] rows = {{99, NONE, NONE}, {100, 1, NONE}, {149, 1, NONE}, {150, 0, 1}, {199, 0, 1},
            {200, 0, NONE}, {249, 0, NONE}, {250, NONE, NONE}};
        for (int[] row : rows) {
            CHECK.due("26: first at " + row[0], d.at(0, row[0], 0), row[1]);
            CHECK.due("26: second at " + row[0], d.at(0, row[0], 1), row[2]);
            for (int k : Edge.outside(0, 1)) {
                CHECK.due("26: k " + k + " at " + row[0], d.at(0, row[0], k), NONE);
            }
        }
    }

    /** Promise 26, "-2 if there is none such, but a CONE with it": a k below 0 can't be. */
    private static void atWithACone() {
        ApronDesk d = Scene.allPut(1);
        d.cone(0, 199, 201);
        CHECK.due("26: at 198", d.at(0, 198, 0), 0);
        CHECK.due("26: no second at 198", d.at(0, 198, 1), NONE);
        CHECK.due("26: at 199", d.at(0, 199, 0), 0);
        CHECK.due("26: no second at 199, but a CONE", d.at(0, 199, 1), -2);
        CHECK.due("26: nor the greatest", d.at(0, 199, Edge.GREATEST), -2);
        CHECK.due("26: at 200", d.at(0, 200, 0), -2);
        CHECK.due("26: at 201", d.at(0, 201, 0), NONE);
        CHECK.due("26: k -1", d.at(0, 200, -1), NONE);
        CHECK.due("26: the least k", d.at(0, 200, Edge.LEAST), NONE);
    }

    /** Promise 26, "that has a STAY": one that was TAKEN OFF has none, whether of one or of eight. */
    private static void atWhenItHasGone() {
        ApronDesk d = Scene.allPut(2);
        d.off(0);
        CHECK.due("26: gone", d.at(0, 150, 0), NONE);
        CHECK.due("26: the other is there", d.at(1, 150, 0), 1);
        ApronDesk eight = Scene.eightStays();
        eight.visit(1, 50, 2_000, 2_100, 0);
        eight.put(1, 2);
        CHECK.due("26: 1 is there, and not 0", eight.at(2, 2_050, 0), 1);
        CHECK.due("26: 0 is there", eight.at(1, 999, 0), 0);
        eight.off(0);
        CHECK.due("26: 0 has gone", eight.at(1, 999, 0), NONE);
    }

    /** Promise 27, "a PLANE of that WING .. NONE .. for what can't be": WING 10 to 200. */
    private static void crowdWings() {
        for (int wing : Edge.inside(10, 200)) {
            CHECK.due("27: wing " + wing, Scene.stands(1).crowd(0, wing, 0), 0);
        }
        for (int wing : Edge.outside(10, 200)) {
            CHECK.due("27: wing " + wing, Scene.stands(1).crowd(0, wing, 0), NONE);
        }
        ApronDesk d = new ApronDesk();
        d.stand(1, 49);
        d.stand(2, 50);
        d.stand(3, 51);
        d.stand(4, 50);
        d.stand(5, 50);
        int[] due = {1, 2, 3, 4, NONE};
        for (int k = 0; k < due.length; k++) {
            CHECK.due("27: SIZE, without NEED, at any KIND", d.crowd(1_400, 50, k), due[k]);
        }
    }

    /** Promise 27, "The k-th STAND, by numbers .. NONE if there is none such". */
    private static void crowdNumbers() {
        ApronDesk d = Scene.stands(24);
        for (int k : Edge.inside(0, 23)) {
            CHECK.due("27: k " + k, d.crowd(100, 50, k), k);
        }
        for (int k : Edge.outside(0, 23)) {
            CHECK.due("27: k " + k, d.crowd(100, 50, k), NONE);
        }
    }

    /** Promise 27, "nothing would be against .. for that MINUTE alone": by each of 3, 4 and 5. */
    private static void crowdForThatMinuteAlone() {
        ApronDesk d = Scene.stands(2);
        d.stand(3, 100);
        d.stand(4, 200);
        d.near(0, 1, 50, 60);
        d.cone(3, 100, 200);
        d.visit(1, 50, 100, 200, 0);
        d.visit(1, 50, 100, 200, 0);
        d.visit(1, 50, 199, 300, 0);
        d.put(0, 0);
        d.put(1, 2);
        d.put(2, 2);
        free(d, 99, 61, 0, 1, 2, 3);
        free(d, 100, 61);
        free(d, 100, 60, 1);
        free(d, 198, 50, 1, 2);
        free(d, 198, 51, 1);
        free(d, 199, 50, 1);
        free(d, 200, 50, 0, 1, 2, 3);
        free(d, 200, 51, 0, 1, 3);
        free(d, 300, 100, 0, 1, 2, 3);
        free(d, 300, 101, 0, 1, 3);
    }

    /** Promise 27, "a PLANE .., without NEED": whichever VISIT was looked at before. */
    private static void crowdForAPlaneWithoutNeed() {
        for (int kind = 1; kind <= 4; kind++) {
            for (int need = 0; need <= 2; need++) {
                ApronDesk d = new ApronDesk();
                for (int s = 1; s <= 5; s++) {
                    d.stand(s, 50);
                }
                d.visit(kind, 50, 1_400, 1_500, need);
                d.why(0, 0);
                free(d, 1_450, 50, 0, 1, 2, 3, 4);
                free(d, 1_450, 51);
            }
        }
    }

    private static void free(ApronDesk d, int minute, int wing, int... stands) {
        String name = "27: crowd at " + minute + ", wing " + wing;
        for (int k = 0; k < stands.length; k++) {
            CHECK.due(name, d.crowd(minute, wing, k), stands[k]);
        }
        CHECK.due(name + ", no more", d.crowd(minute, wing, stands.length), NONE);
    }
}
