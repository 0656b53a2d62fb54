import java.util.function.Supplier;
import java.util.function.ToIntFunction;

/**
 * ==== 4: "STATUS of a call is the first of these that holds", and "With another STATUS than 0 a call
 * gives NONE, or false, and changes nothing else". Each call, with each STATUS that it may have, alone
 * and together with later ones that would hold as well.
 */
public final class EdgeStatusTest {
    private static final Check CHECK = new Check();
    private static final int NONE = ApronDesk.NONE;
    private static final int LEAST = Edge.LEAST;
    private static final int GREATEST = Edge.GREATEST;

    /** In busy(): what each visit is. */
    private static final int PUT = 0;
    private static final int TOWED = 1;
    private static final int WAITS = 2;
    private static final int UNKNOWN = 3;
    private static final int TO_COME = 4;
    private static final int TORN = 5;
    private static final int BEGUN = 6;
    private static final int CHANGED = 7;
    private static final int REFUSED = 8;
    private static final int NO_VISIT = 9;
    private static final int NO_STAND = 5;

    public static void main(String[] args) {
        busyIsAsItSays();
        ofStand();
        ofGround();
        ofNear();
        ofCone();
        ofTowtime();
        ofVisit();
        ofTear();
        ofTold();
        ofPut();
        ofWhy();
        ofOff();
        ofTow();
        ofTowWithEightStays();
        ofLate();
        ofNow();
        ofSwap();
        ofStays();
        reasonOfTheLatestWith8Or9();
        callsWithoutAStatus();
        doneAfterRefused();
        CHECK.end();
    }

    private static void busy(String name, int status, ToIntFunction<ApronDesk> call) {
        CHECK.refusal(name, status, Scene::busy, call);
    }

    private static void hindered(String name, int reason, int by, ToIntFunction<ApronDesk> call) {
        CHECK.hindrance(name, 8, reason, by, Scene::busy, call);
    }

    /** The scene of most tests here has what its comment tells. */
    private static void busyIsAsItSays() {
        ApronDesk d = Scene.busy();
        CHECK.because("busy", d, 3, BEGUN);
        CHECK.due("busy: CHANGED", d.changed(0), CHANGED);
        CHECK.due("busy: one waits", d.waiting(), 1);
        CHECK.stays(d, PUT, 0, 150, 255);
        CHECK.due("busy: towed", d.stays(TOWED), 2);
        CHECK.due("busy: TOWTIME 7", d.stay(TOWED, 0, 2), 207);
        CHECK.stays(d, WAITS, NONE, 0, 0);
        CHECK.refused("busy: UNKNOWN", d.why(UNKNOWN, 0), d, 5);
        CHECK.stays(d, TO_COME, NONE, 0, 0);
        CHECK.refused("busy: torn", d.told(TORN, 4), d, 3);
        CHECK.stays(d, TORN, 4, 700, 1_400);
        CHECK.stays(d, BEGUN, 1, 90, 400);
        CHECK.stays(d, CHANGED, 2, 250, 260);
        CHECK.stays(d, REFUSED, NONE, 0, 0);
        CHECK.refused("busy: no such STAND", d.ground(NO_STAND, 0), d, 1);
        CHECK.refused("busy: no such VISIT", d.stays(NO_VISIT), d, 2);
    }

    /** Promise 4, "(3, 4)". */
    private static void ofStand() {
        busy("4: KIND", 3, d -> d.stand(0, 50));
        busy("4: SIZE", 3, d -> d.stand(1, 201));
        busy("4: both", 3, d -> d.stand(LEAST, GREATEST));
        Supplier<ApronDesk> full = Scene::fullOfStands;
        CHECK.refusal("4: one too many", 4, full, d -> d.stand(1, 10));
        CHECK.refusal("4: 3 ahead of 4, KIND", 3, full, d -> d.stand(6, 50));
        CHECK.refusal("4: 3 ahead of 4, SIZE", 3, full, d -> d.stand(1, 9));
    }

    /** Promise 5, "(1; 3 for others)". */
    private static void ofGround() {
        busy("5: no such STAND", 1, d -> d.ground(NO_STAND, 0));
        busy("5: what", 3, d -> d.ground(0, 2));
        busy("5: 1 ahead of 3", 1, d -> d.ground(NO_STAND, 2));
        busy("5: 1 ahead of 3, far off", 1, d -> d.ground(GREATEST, LEAST));
    }

    /** Promise 6, "(1; 3: like ones, too; 4)". */
    private static void ofNear() {
        busy("6: no such STAND a", 1, d -> d.near(NO_STAND, 0, 0, 0));
        busy("6: no such STAND b", 1, d -> d.near(0, NO_STAND, 0, 0));
        busy("6: like ones", 3, d -> d.near(4, 4, 0, 0));
        busy("6: LIMIT", 3, d -> d.near(3, 4, 0, 201));
        busy("6: 1 ahead of 3, like ones", 1, d -> d.near(NO_STAND, NO_STAND, 0, 0));
        busy("6: 1 ahead of 3, like ones far off", 1, d -> d.near(LEAST, LEAST, 0, 0));
        busy("6: 1 ahead of 3, LIMIT of a", 1, d -> d.near(0, NO_STAND, 201, 0));
        busy("6: 1 ahead of 3, LIMIT of b", 1, d -> d.near(-1, 0, 0, -1));
        Supplier<ApronDesk> full = Scene::fullOfPairs;
        CHECK.refusal("6: one too many", 4, full, d -> d.near(0, 1, 0, 0));
        CHECK.refusal("6: 1 ahead of 4", 1, full, d -> d.near(NO_STAND, 1, 0, 0));
        CHECK.refusal("6: 3 ahead of 4, like ones", 3, full, d -> d.near(1, 1, 0, 0));
        CHECK.refusal("6: 3 ahead of 4, LIMIT", 3, full, d -> d.near(0, 1, -1, 0));
    }

    /** Promise 7, "(1; 3; 4)". */
    private static void ofCone() {
        busy("7: no such STAND", 1, d -> d.cone(NO_STAND, 0, 1));
        busy("7: SPAN", 3, d -> d.cone(0, 1, 1));
        busy("7: 1 ahead of 3", 1, d -> d.cone(-1, 1, 1));
        Supplier<ApronDesk> full = Scene::fullOfCones;
        CHECK.refusal("7: one too many", 4, full, d -> d.cone(0, 0, 1));
        CHECK.refusal("7: 1 ahead of 4", 1, full, d -> d.cone(NO_STAND, 0, 1));
        CHECK.refusal("7: 3 ahead of 4", 3, full, d -> d.cone(0, 2_880, 2_881));
    }

    /** Promise 8, "(3)". */
    private static void ofTowtime() {
        busy("8: below", 3, d -> Edge.flag(d.towtime(0)));
        busy("8: above", 3, d -> Edge.flag(d.towtime(61)));
    }

    /** Promise 9, "(3, 4)". */
    private static void ofVisit() {
        busy("9: KIND", 3, d -> d.visit(5, 50, 100, 200, 0));
        busy("9: WING", 3, d -> d.visit(1, 9, 100, 200, 0));
        busy("9: SPAN", 3, d -> d.visit(1, 50, 200, 200, 0));
        busy("9: NEED", 3, d -> d.visit(1, 50, 100, 200, 3));
        Supplier<ApronDesk> full = Scene::fullOfVisits;
        CHECK.refusal("9: one too many", 4, full, d -> d.visit(1, 50, 100, 200, 0));
        CHECK.refusal("9: 3 ahead of 4, KIND", 3, full, d -> d.visit(0, 50, 100, 200, 0));
        CHECK.refusal("9: 3 ahead of 4, WING", 3, full, d -> d.visit(1, 201, 100, 200, 0));
        CHECK.refusal("9: 3 ahead of 4, SPAN", 3, full, d -> d.visit(1, 50, 100, 2_881, 0));
        CHECK.refusal("9: 3 ahead of 4, NEED", 3, full, d -> d.visit(1, 50, 100, 200, -1));
    }

    /** Promise 10, "(2; 3: below 0, or more than it has; 6)". */
    private static void ofTear() {
        busy("10: no such VISIT", 2, d -> Edge.flag(d.tear(NO_VISIT, 0)));
        busy("10: below 0", 3, d -> Edge.flag(d.tear(TO_COME, -1)));
        busy("10: more than it has", 3, d -> Edge.flag(d.tear(UNKNOWN, 3)));
        busy("10: PUT", 6, d -> Edge.flag(d.tear(PUT, 5)));
        busy("10: PUT, to nothing", 6, d -> Edge.flag(d.tear(TORN, 0)));
        busy("10: 2 ahead of 3", 2, d -> Edge.flag(d.tear(NO_VISIT, 6)));
        busy("10: 3 ahead of 6, below 0", 3, d -> Edge.flag(d.tear(PUT, -1)));
        busy("10: 3 ahead of 6, more", 3, d -> Edge.flag(d.tear(TORN, 5)));
        ApronDesk d = Scene.busy();
        CHECK.done("10: one that waits, so has BEGUN", d.tear(WAITS, 3), d);
    }

    /** Promise 11, "(2; 3: it has no such)". */
    private static void ofTold() {
        busy("11: no such VISIT", 2, d -> d.told(NO_VISIT, 0));
        busy("11: no such number", 3, d -> d.told(PUT, 5));
        busy("11: torn", 3, d -> d.told(UNKNOWN, 2));
        busy("11: 2 ahead of 3", 2, d -> d.told(-1, 5));
    }

    /** Promise 12, "(1, 2, 5, 6, 7, 8)". */
    private static void ofPut() {
        busy("12: no such STAND", 1, d -> Edge.flag(d.put(TO_COME, NO_STAND)));
        busy("12: no such VISIT", 2, d -> Edge.flag(d.put(NO_VISIT, 0)));
        busy("12: UNKNOWN", 5, d -> Edge.flag(d.put(UNKNOWN, 4)));
        busy("12: PUT", 6, d -> Edge.flag(d.put(PUT, 0)));
        busy("12: BEGUN", 7, d -> Edge.flag(d.put(WAITS, 3)));
        hindered("12: TAKEN by the one towed there", 5, TOWED, d -> Edge.flag(d.put(REFUSED, 2)));
        hindered("12: NEED", 2, NONE, d -> Edge.flag(d.put(TO_COME, 3)));
        busy("12: 1 ahead of 2", 1, d -> Edge.flag(d.put(NO_VISIT, NO_STAND)));
        busy("12: 1 ahead of 5", 1, d -> Edge.flag(d.put(UNKNOWN, -1)));
        busy("12: 1 ahead of 6", 1, d -> Edge.flag(d.put(PUT, NO_STAND)));
        busy("12: 1 ahead of 7", 1, d -> Edge.flag(d.put(WAITS, NO_STAND)));
        busy("12: 5 ahead of 8", 5, d -> Edge.flag(d.put(UNKNOWN, 1)));
        busy("12: 6 ahead of 7", 6, d -> Edge.flag(d.put(BEGUN, 1)));
        busy("12: 6 ahead of 8", 6, d -> Edge.flag(d.put(PUT, 1)));
        busy("12: 7 ahead of 8, SIZE", 7, d -> Edge.flag(d.put(WAITS, 0)));
    }

    /** Promise 13, "(1, 2, 5)": PUT and BEGUN don't matter, and what is against it is STATUS 0. */
    private static void ofWhy() {
        busy("13: no such STAND", 1, d -> d.why(TO_COME, NO_STAND));
        busy("13: no such VISIT", 2, d -> d.why(NO_VISIT, 0));
        busy("13: UNKNOWN", 5, d -> d.why(UNKNOWN, 0));
        busy("13: 1 ahead of 2", 1, d -> d.why(NO_VISIT, NO_STAND));
        busy("13: 1 ahead of 5", 1, d -> d.why(UNKNOWN, NO_STAND));
        ApronDesk d = Scene.busy();
        CHECK.done("13: one that is PUT, nothing", d.why(PUT, 0), d, 0);
        CHECK.because("13: nothing leaves REASON", d, 3, BEGUN);
        CHECK.done("13: one that is PUT, something", d.why(PUT, 1), d, 5);
        CHECK.because("13: something tells it", d, 5, BEGUN);
        CHECK.done("13: one that has BEGUN", d.why(WAITS, 0), d, 1);
        CHECK.because("13: SIZE", d, 1, NONE);
        CHECK.same("13: it changes nothing but REASON", View.besidesReason(d),
                View.besidesReason(Scene.busy()));
    }

    /** Promise 14, "(2, 6, 7)". */
    private static void ofOff() {
        busy("14: no such VISIT", 2, d -> Edge.flag(d.off(NO_VISIT)));
        busy("14: not PUT", 6, d -> Edge.flag(d.off(TO_COME)));
        busy("14: UNKNOWN is not PUT", 6, d -> Edge.flag(d.off(UNKNOWN)));
        busy("14: BEGUN", 7, d -> Edge.flag(d.off(BEGUN)));
        busy("14: 6 ahead of 7", 6, d -> Edge.flag(d.off(WAITS)));
    }

    /** Promise 15, "(1; 2; 6; 3 ..; 4 ..; 8 ..)"; "in tow() ahead of 3". */
    private static void ofTow() {
        busy("15: no such STAND", 1, d -> Edge.flag(d.tow(PUT, 200, NO_STAND)));
        busy("15: no such VISIT", 2, d -> Edge.flag(d.tow(NO_VISIT, 200, 3)));
        busy("15: not PUT", 6, d -> Edge.flag(d.tow(TO_COME, 350, 4)));
        busy("15: UNKNOWN is not PUT", 6, d -> Edge.flag(d.tow(UNKNOWN, 450, 4)));
        busy("15: MINUTE", 3, d -> Edge.flag(d.tow(PUT, 150, 4)));
        hindered("15: TAKEN", 5, BEGUN, d -> Edge.flag(d.tow(PUT, 200, 1)));
        busy("15: 1 ahead of 2", 1, d -> Edge.flag(d.tow(NO_VISIT, 200, NO_STAND)));
        busy("15: 1 ahead of 6", 1, d -> Edge.flag(d.tow(TO_COME, 350, NO_STAND)));
        busy("15: 1 ahead of 3", 1, d -> Edge.flag(d.tow(PUT, LEAST, NO_STAND)));
        busy("15: 2 ahead of 3", 2, d -> Edge.flag(d.tow(NO_VISIT, GREATEST, 3)));
        busy("15: 6 ahead of 3", 6, d -> Edge.flag(d.tow(TO_COME, GREATEST, 4)));
        busy("15: 6 ahead of 3, one that waits", 6, d -> Edge.flag(d.tow(WAITS, LEAST, 3)));
        busy("15: 6 ahead of 8", 6, d -> Edge.flag(d.tow(TO_COME, 350, 0)));
        busy("15: 3 ahead of 8", 3, d -> Edge.flag(d.tow(PUT, 248, 1)));
        busy("15: 3 ahead of 8, its own STAND", 3, d -> Edge.flag(d.tow(TOWED, 250, 3)));
    }

    private static ApronDesk eightStaysAndACone() {
        ApronDesk d = Scene.eightStays();
        d.cone(2, 500, 600);
        return d;
    }

    /** Promise 15, "4: it has eight STAYS": behind 1, 2 and 3, ahead of 8. */
    private static void ofTowWithEightStays() {
        Supplier<ApronDesk> eight = EdgeStatusTest::eightStaysAndACone;
        CHECK.refusal("15: 4", 4, eight, d -> Edge.flag(d.tow(0, 700, 2)));
        CHECK.refusal("15: 4 ahead of 8", 4, eight, d -> Edge.flag(d.tow(0, 550, 2)));
        CHECK.refusal("15: 1 ahead of 4", 1, eight, d -> Edge.flag(d.tow(0, 700, 3)));
        CHECK.refusal("15: 3 ahead of 4, its own STAND", 3, eight, d -> Edge.flag(d.tow(0, 700, 1)));
        CHECK.refusal("15: 3 ahead of 4, too early", 3, eight, d -> Edge.flag(d.tow(0, 170, 2)));
        CHECK.refusal("15: 3 ahead of 4, too late", 3, eight, d -> Edge.flag(d.tow(0, 995, 2)));
    }

    /** Promise 19, "(2; 3 ..; 6: it is not PUT; 9)". */
    private static void ofLate() {
        busy("19: no such VISIT", 2, d -> d.late(NO_VISIT, 500));
        busy("19: not behind its OUT", 3, d -> d.late(PUT, 255));
        busy("19: above 2,880", 3, d -> d.late(PUT, 2_881));
        busy("19: no OUT", 3, d -> d.late(UNKNOWN, 600));
        busy("19: not PUT", 6, d -> d.late(TO_COME, 401));
        busy("19: 2 ahead of 3", 2, d -> d.late(NO_VISIT, LEAST));
        busy("19: 3 ahead of 6", 3, d -> d.late(TO_COME, 400));
        busy("19: 3 ahead of 6, above", 3, d -> d.late(WAITS, GREATEST));
        busy("19: 6 ahead of 9", 6, d -> d.late(WAITS, 601));
        busy("19: 3 ahead of 9", 3, d -> d.late(TOWED, 2_881));
        CHECK.hindrance("19: a CONE", 9, 4, 0, Scene::busy, d -> d.late(TOWED, 501));
        ApronDesk d = Scene.busy();
        CHECK.done("19: till the CONE", d.late(TOWED, 500), d, 0);
    }

    /** Promise 21, "(3: below NOW, above 2,879)". */
    private static void ofNow() {
        busy("21: below NOW", 3, d -> d.now(99));
        busy("21: above", 3, d -> d.now(2_880));
    }

    /** As busy(), at a time at which the one that was towed has BEGUN, too. */
    private static ApronDesk busyLater() {
        ApronDesk d = Scene.busy();
        d.now(120);
        return d;
    }

    /** Promise 23, "(2: no such, or the same one twice; 5; 6: another number of STAYS; 7; 8 ..)". */
    private static void ofSwap() {
        busy("23: no such VISIT a", 2, d -> Edge.flag(d.swap(NO_VISIT, PUT)));
        busy("23: no such VISIT b", 2, d -> Edge.flag(d.swap(PUT, NO_VISIT)));
        busy("23: the same one twice", 2, d -> Edge.flag(d.swap(PUT, PUT)));
        busy("23: UNKNOWN", 5, d -> Edge.flag(d.swap(PUT, UNKNOWN)));
        busy("23: no STAY", 6, d -> Edge.flag(d.swap(PUT, TO_COME)));
        busy("23: two STAYS", 6, d -> Edge.flag(d.swap(PUT, TOWED)));
        busy("23: BEGUN", 7, d -> Edge.flag(d.swap(PUT, BEGUN)));
        busy("23: BEGUN, the other way", 7, d -> Edge.flag(d.swap(BEGUN, PUT)));
        hindered("23: NEED of the second", 2, NONE, d -> Edge.flag(d.swap(CHANGED, TORN)));
        hindered("23: NEED of the first", 2, NONE, d -> Edge.flag(d.swap(TORN, CHANGED)));
        busy("23: 2 ahead of 5, twice", 2, d -> Edge.flag(d.swap(UNKNOWN, UNKNOWN)));
        busy("23: 2 ahead of 5", 2, d -> Edge.flag(d.swap(UNKNOWN, NO_VISIT)));
        busy("23: 2 ahead of 6, twice", 2, d -> Edge.flag(d.swap(TOWED, TOWED)));
        busy("23: 2 ahead of 6", 2, d -> Edge.flag(d.swap(GREATEST, TO_COME)));
        busy("23: 2 ahead of 7, twice", 2, d -> Edge.flag(d.swap(BEGUN, BEGUN)));
        busy("23: 2 ahead of 7", 2, d -> Edge.flag(d.swap(BEGUN, LEAST)));
        busy("23: 5 ahead of 6, the other's", 5, d -> Edge.flag(d.swap(TO_COME, UNKNOWN)));
        busy("23: 5 ahead of 6, its own", 5, d -> Edge.flag(d.swap(UNKNOWN, TOWED)));
        busy("23: 5 ahead of 7", 5, d -> Edge.flag(d.swap(BEGUN, UNKNOWN)));
        busy("23: 6 ahead of 7, the other's", 6, d -> Edge.flag(d.swap(BEGUN, TO_COME)));
        busy("23: 6 ahead of 7, its own", 6, d -> Edge.flag(d.swap(WAITS, BEGUN)));
        busy("23: 6 ahead of 8", 6, d -> Edge.flag(d.swap(TOWED, CHANGED)));
        CHECK.refusal("23: 6 ahead of 7, two STAYS and BEGUN", 6, EdgeStatusTest::busyLater,
                d -> Edge.flag(d.swap(TOWED, BEGUN)));
        busy("23: 7 ahead of 8", 7, d -> Edge.flag(d.swap(BEGUN, CHANGED)));
    }

    /** Promises 24 and 25, "(2)" and "(2; 3: no such)". */
    private static void ofStays() {
        busy("24: no such VISIT", 2, d -> d.stays(NO_VISIT));
        busy("25: no such VISIT", 2, d -> d.stay(NO_VISIT, 0, 0));
        busy("25: no such STAY", 3, d -> d.stay(PUT, 1, 0));
        busy("25: none at all", 3, d -> d.stay(TO_COME, 0, 0));
        busy("25: what", 3, d -> d.stay(PUT, 0, 3));
        busy("25: 2 ahead of 3, k", 2, d -> d.stay(-1, LEAST, 0));
        busy("25: 2 ahead of 3, what", 2, d -> d.stay(NO_VISIT, 0, GREATEST));
    }

    /** "8 .. (REASON tells the number, AGAINST BY whom, of the latest call that had this STATUS or 9)". */
    private static void reasonOfTheLatestWith8Or9() {
        ApronDesk d = Scene.busy();
        CHECK.because("3: by put()", d, 3, BEGUN);
        d.late(TOWED, 501);
        CHECK.because("3: by late()", d, 4, 0);
        d.tow(PUT, 200, 1);
        CHECK.because("3: by tow()", d, 5, BEGUN);
        d.swap(CHANGED, TORN);
        CHECK.because("3: by swap()", d, 2, NONE);
        d.why(REFUSED, 2);
        CHECK.because("3: by why()", d, 5, TOWED);
        d.put(REFUSED, 0);
        CHECK.because("3: by put() again", d, 3, BEGUN);
        leaveReason(d);
        CHECK.because("3: by no other", d, 3, BEGUN);
    }

    /** Calls with each other STATUS, and such as are done. */
    private static void leaveReason(ApronDesk d) {
        d.ground(NO_STAND, 0);
        d.off(NO_VISIT);
        d.now(0);
        d.put(UNKNOWN, 0);
        d.put(PUT, 0);
        d.put(WAITS, 3);
        d.visit(2, 200, 2_000, 2_100, 2);
        d.search();
        d.most();
        d.plan();
        d.now(101);
        d.why(PUT, 0);
        d.crowd(150, 200, 0);
        d.late(TORN, 1_401);
        d.off(TORN);
        d.put(TORN, 4);
    }

    /** "calls without a STATUS are told so": they leave that of the call before, whatever it was. */
    private static void callsWithoutAStatus() {
        for (int status = 0; status <= 3; status++) {
            ApronDesk d = Scene.busy();
            CHECK.due("2: a call with STATUS " + status, callWith(status, d), status);
            int[] numbers = {0, 1, 2, -1, LEAST, GREATEST};
            for (int x : numbers) {
                d.reason(x);
                CHECK.due("3: reason " + x, d.status(), status);
                d.changed(x);
                CHECK.due("20: changed " + x, d.status(), status);
                d.waiting();
                CHECK.due("22: waiting", d.status(), status);
                d.at(x, x, x);
                CHECK.due("26: at " + x, d.status(), status);
                d.at(0, 160, x);
                CHECK.due("26: at 160, " + x, d.status(), status);
                d.crowd(x, x, x);
                CHECK.due("27: crowd " + x, d.status(), status);
                d.crowd(160, 50, x);
                CHECK.due("27: crowd 160, " + x, d.status(), status);
            }
        }
    }

    private static int callWith(int status, ApronDesk d) {
        switch (status) {
            case 0:
                d.plan();
                break;
            case 1:
                d.ground(-1, 0);
                break;
            case 2:
                d.stays(-1);
                break;
            default:
                d.towtime(0);
                break;
        }
        return d.status();
    }

    /** "0 else": a call that is done has STATUS 0, though the one before was refused. */
    private static void doneAfterRefused() {
        ApronDesk d = Scene.busy();
        CHECK.refused("4: refused", d.stand(0, 0), d, 3);
        CHECK.done("5: done", d.ground(0, 0), d, 1);
        CHECK.refused("4: refused", d.stand(0, 0), d, 3);
        CHECK.done("8: done", d.towtime(1), d);
        CHECK.refused("9: refused", d.visit(0, 0, 0, 0, 0), d, 3);
        CHECK.done("24: done", d.stays(UNKNOWN), d, 0);
        CHECK.refused("14: refused", d.off(BEGUN), d, 7);
        CHECK.done("14: done", d.off(PUT), d);
    }
}
