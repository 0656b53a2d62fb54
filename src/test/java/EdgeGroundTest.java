/** The bounds that promises 1 to 11 name; those of "Terms" are in EdgeTermsTest. */
public final class EdgeGroundTest {
    private static final Check CHECK = new Check();
    private static final int NONE = ApronDesk.NONE;

    public static void main(String[] args) {
        newObject();
        newObjectHasNoStands();
        newObjectHasNoVisits();
        statusOfTheLatestCallThatHasOne();
        reasonForOthers();
        standNumbers();
        groundOfEachStand();
        groundForOthers();
        nearOfTwoStands();
        nearLikeOnes();
        nearTellsHowMany();
        nearLetsStaysBe();
        coneOnAStand();
        coneTellsItsNumber();
        coneLetsStaysBe();
        towtimeThatIsRefused();
        towtimeOfTowsToCome();
        visitNumbers();
        tearOfEachVisit();
        tearFrom0ToWhatItHas();
        tearOfOneThatIsPut();
        toldOfEachVisit();
        toldOfWhatItHas();
        CHECK.end();
    }

    /** Promise 1, "STATUS 0, REASON 0, AGAINST NONE". */
    private static void newObject() {
        ApronDesk d = new ApronDesk();
        CHECK.due("1: STATUS", d.status(), 0);
        CHECK.due("1: REASON", d.reason(0), 0);
        CHECK.due("1: AGAINST", d.reason(1), NONE);
        CHECK.due("1: none CHANGED", d.changed(0), NONE);
        CHECK.due("1: none WAITING", d.waiting(), 0);
    }

    /** Promise 1, "No STANDS": calls with STAND 0 are refused. */
    private static void newObjectHasNoStands() {
        for (int s : new int[] {0, 1, -1, 23, 24, Edge.LEAST, Edge.GREATEST}) {
            ApronDesk d = new ApronDesk();
            CHECK.refused("5: ground", d.ground(s, 0), d, 1);
            CHECK.refused("6: near", d.near(s, s + 1, 0, 0), d, 1);
            CHECK.refused("7: cone", d.cone(s, 0, 1), d, 1);
            CHECK.refused("12: put", d.put(0, s), d, 1);
            CHECK.refused("13: why", d.why(0, s), d, 1);
            CHECK.refused("15: tow", d.tow(0, 1, s), d, 1);
            CHECK.due("26: at", d.at(s, 0, 0), NONE);
            CHECK.due("27: crowd", d.crowd(0, 10, 0), NONE);
        }
    }

    /** Promise 1, "no VISITS": calls with VISIT 0 are refused. */
    private static void newObjectHasNoVisits() {
        for (int v : new int[] {0, 1, -1, 39, 40, Edge.LEAST, Edge.GREATEST}) {
            ApronDesk d = Scene.stands(2);
            CHECK.refused("10: tear", d.tear(v, 0), d, 2);
            CHECK.refused("11: told", d.told(v, 0), d, 2);
            CHECK.refused("12: put", d.put(v, 0), d, 2);
            CHECK.refused("13: why", d.why(v, 0), d, 2);
            CHECK.refused("14: off", d.off(v), d, 2);
            CHECK.refused("15: tow", d.tow(v, 1, 0), d, 2);
            CHECK.refused("19: late", d.late(v, 1), d, 2);
            CHECK.refused("23: swap", d.swap(v, v + 1), d, 2);
            CHECK.refused("24: stays", d.stays(v), d, 2);
            CHECK.refused("25: stay", d.stay(v, 0, 0), d, 2);
            CHECK.due("26: at", d.at(0, 0, 0), NONE);
        }
    }

    /** Promise 2, "STATUS of the latest call that has one": status() itself has none. */
    private static void statusOfTheLatestCallThatHasOne() {
        ApronDesk d = new ApronDesk();
        d.ground(0, 0);
        for (int i = 0; i < 3; i++) {
            CHECK.due("2: again", d.status(), 1);
        }
        d.stays(0);
        CHECK.due("2: the next", d.status(), 2);
        d.stand(1, 10);
        CHECK.due("2: one that is done", d.status(), 0);
    }

    /** Promise 3, "REASON (what 0), AGAINST (1); NONE for others". */
    private static void reasonForOthers() {
        ApronDesk d = Scene.busy();
        CHECK.due("3: REASON", d.reason(0), 3);
        CHECK.due("3: AGAINST", d.reason(1), 6);
        for (int what : Edge.outside(0, 1)) {
            CHECK.due("3: what " + what, d.reason(what), NONE);
        }
    }

    /** Promise 4, "A STAND more ..: its number": a refused one takes no number. */
    private static void standNumbers() {
        ApronDesk d = new ApronDesk();
        CHECK.done("4: the first", d.stand(1, 10), d, 0);
        CHECK.refused("4: refused", d.stand(1, 9), d, 3);
        CHECK.done("4: the second", d.stand(1, 10), d, 1);
    }

    /** Promise 5, "What a STAND is .. (1 ..)". */
    private static void groundOfEachStand() {
        CHECK.range("5: stand of one", 0, 0, 1, () -> Scene.stands(1), (d, x) -> d.ground(x, 0));
        CHECK.range("5: stand of five", 0, 4, 1, Scene::busy, (d, x) -> d.ground(x, 1));
        CHECK.range("5: stand of 24", 0, 23, 1, Scene::fullOfStands, (d, x) -> d.ground(x, 0));
    }

    /** Promise 5, "what 0: KIND, 1: SIZE (.. 3 for others)". */
    private static void groundForOthers() {
        CHECK.range("5: what", 0, 1, 3, Scene::busy, (d, x) -> d.ground(4, x));
        ApronDesk d = Scene.busy();
        CHECK.done("5: KIND", d.ground(4, 0), d, 5);
        CHECK.done("5: SIZE", d.ground(4, 1), d, 90);
    }

    /** Promise 6, "of two .. STANDS .. (1 ..)". */
    private static void nearOfTwoStands() {
        for (int s = 0; s < 4; s++) {
            ApronDesk d = Scene.busy();
            CHECK.done("6: with the last", d.near(s, 4, 0, 0), d, 2);
            CHECK.done("6: the other way round", d.near(4, s, 0, 0), d, 3);
        }
        for (int x : Edge.outside(0, 4)) {
            CHECK.refusal("6: a is " + x, 1, Scene::busy, d -> d.near(x, 0, 0, 0));
            CHECK.refusal("6: b is " + x, 1, Scene::busy, d -> d.near(0, x, 0, 0));
            CHECK.refusal("6: both are " + x, 1, Scene::busy, d -> d.near(x, x, 0, 0));
        }
    }

    /** Promise 6, "two unlike STANDS .. (.. 3: like ones, too ..)". */
    private static void nearLikeOnes() {
        for (int s = 0; s < 5; s++) {
            int like = s;
            CHECK.refusal("6: twice " + s, 3, Scene::busy, d -> d.near(like, like, 200, 200));
        }
    }

    /** Promise 6, "How many there are": the same PAIR again, and the other way round, is one more. */
    private static void nearTellsHowMany() {
        ApronDesk d = Scene.stands(3);
        CHECK.done("6: the first", d.near(0, 1, 0, 0), d, 1);
        CHECK.done("6: the same", d.near(0, 1, 0, 0), d, 2);
        CHECK.refused("6: refused", d.near(0, 0, 0, 0), d, 3);
        CHECK.done("6: the other way round", d.near(1, 0, 0, 0), d, 3);
        CHECK.done("6: another", d.near(2, 1, 200, 200), d, 4);
    }

    /** Promise 6, "(STAYS that are there stay.)": and those to come are hindered. */
    private static void nearLetsStaysBe() {
        ApronDesk d = Scene.allPut(3);
        CHECK.done("6: near", d.near(0, 1, 0, 0), d, 1);
        CHECK.stays(d, 0, 0, 100, 200);
        CHECK.stays(d, 1, 1, 100, 200);
        d.off(0);
        CHECK.hindered("6: not again", d.put(0, 0), d, 3, 1);
    }

    /** Promise 7, "A CONE more, on a STAND .. (1 ..)". */
    private static void coneOnAStand() {
        CHECK.range("7: stand", 0, 4, 1, Scene::busy, (d, x) -> d.cone(x, 0, 1));
        CHECK.range("7: stand of 24", 0, 23, 1, Scene::fullOfStands, (d, x) -> d.cone(x, 0, 1));
    }

    /** Promise 7, "its number": over all STANDS; a refused one takes none. */
    private static void coneTellsItsNumber() {
        ApronDesk d = Scene.stands(2);
        CHECK.done("7: the first", d.cone(1, 0, 2_880), d, 0);
        CHECK.refused("7: refused", d.cone(1, 1, 1), d, 3);
        CHECK.done("7: the second", d.cone(0, 0, 2_880), d, 1);
        CHECK.done("7: one more at the same place", d.cone(1, 0, 2_880), d, 2);
    }

    /** Promise 7, "(STAYS that are there stay.)": and those to come are hindered. */
    private static void coneLetsStaysBe() {
        ApronDesk d = Scene.allPut(1);
        CHECK.done("7: cone", d.cone(0, 199, 200), d, 0);
        CHECK.stays(d, 0, 0, 100, 200);
        CHECK.due("26: it is still told first", d.at(0, 199, 0), 0);
        d.off(0);
        CHECK.hindered("7: not again", d.put(0, 0), d, 4, 0);
    }

    private static int endOfTow(ApronDesk d) {
        d.stand(1, 200);
        d.stand(1, 200);
        d.visit(1, 50, 100, 500, 0);
        d.put(0, 0);
        d.tow(0, 200, 1);
        return d.stay(0, 0, 2);
    }

    /** Promise 8, "TOWTIME is a number (3)": a refused one leaves it. */
    private static void towtimeThatIsRefused() {
        for (int minutes : Edge.outside(1, 60)) {
            ApronDesk d = new ApronDesk();
            CHECK.refused("8: " + minutes, d.towtime(minutes), d, 3);
            CHECK.due("8: five still", endOfTow(d), 205);
            ApronDesk other = new ApronDesk();
            other.towtime(60);
            CHECK.refused("8: " + minutes, other.towtime(minutes), other, 3);
            CHECK.due("8: sixty still", endOfTow(other), 260);
        }
    }

    /** Promise 8, "TOWTIME is a number": a TOW that was made stays as it is. */
    private static void towtimeOfTowsToCome() {
        ApronDesk d = new ApronDesk();
        CHECK.due("8: a TOW", endOfTow(d), 205);
        CHECK.done("8: towtime", d.towtime(1), d);
        CHECK.due("8: its end is the same", d.stay(0, 0, 2), 205);
        d.tow(0, 300, 0);
        CHECK.due("8: the next", d.stay(0, 1, 2), 301);
    }

    /** Promise 9, "A VISIT more ..: its number": a refused one takes no number. */
    private static void visitNumbers() {
        ApronDesk d = new ApronDesk();
        CHECK.done("9: the first", d.visit(1, 10, 0, 1, 0), d, 0);
        CHECK.refused("9: refused", d.visit(1, 10, 0, 0, 0), d, 3);
        CHECK.done("9: the second", d.visit(1, 10, 0, 1, 0), d, 1);
    }

    /** Promise 10, "The ROW of a VISIT .. (2 ..)". */
    private static void tearOfEachVisit() {
        CHECK.range("10: visit of three", 0, 2, 2, () -> Scene.visits(3), (d, x) -> Edge.flag(d.tear(x, 4)));
        for (int x : Edge.outside(0, 39)) {
            CHECK.refusal("10: visit of 40", 2, Scene::fullOfVisits, d -> Edge.flag(d.tear(x, 4)));
        }
        ApronDesk d = Scene.fullOfVisits();
        CHECK.done("10: the 40th", d.tear(39, 4), d);
    }

    private static ApronDesk torn(int numbers) {
        ApronDesk d = Scene.visits(2);
        d.tear(0, numbers);
        return d;
    }

    /** Promise 10, "has its first numbers alone, so many (.. 3: below 0, or more than it has ..)". */
    private static void tearFrom0ToWhatItHas() {
        for (int has = 0; has <= 5; has++) {
            int numbers = has;
            CHECK.range("10: of " + has, 0, has, 3, () -> torn(numbers), (d, x) -> Edge.flag(d.tear(0, x)));
            for (int k = 0; k <= has; k++) {
                ApronDesk d = torn(has);
                CHECK.done("10: so many as " + k, d.tear(0, k), d);
                CHECK.refused("11: no more", d.told(0, k), d, 3);
                if (k > 0) {
                    int[] row = {1, 50, 100, 200, 0};
                    CHECK.done("11: the last one left", d.told(0, k - 1), d, row[k - 1]);
                }
                CHECK.done("11: the other VISIT is whole", d.told(1, 4), d, 0);
            }
        }
    }

    /** Promise 10, "of a VISIT that is not PUT .. (.. 6)": for each number, also all five. */
    private static void tearOfOneThatIsPut() {
        for (int numbers = 0; numbers <= 5; numbers++) {
            int many = numbers;
            CHECK.refusal("10: PUT", 6, () -> Scene.allPut(2), d -> Edge.flag(d.tear(0, many)));
        }
        ApronDesk d = Scene.allPut(2);
        d.off(0);
        CHECK.done("10: not any more", d.tear(0, 0), d);
    }

    /** Promise 11, "Number k of a VISIT's ROW (2 ..)". */
    private static void toldOfEachVisit() {
        CHECK.range("11: visit of nine", 0, 8, 2, Scene::busy, (d, x) -> d.told(x, 0));
        CHECK.range("11: visit of 40", 0, 39, 2, Scene::fullOfVisits, (d, x) -> d.told(x, 1));
    }

    /** Promise 11, "(.. 3: it has no such)". */
    private static void toldOfWhatItHas() {
        for (int has = 1; has <= 5; has++) {
            int numbers = has;
            CHECK.range("11: of " + has, 0, has - 1, 3, () -> torn(numbers), (d, x) -> d.told(0, x));
        }
        for (int k : new int[] {0, 1, 4, 5, -1, Edge.LEAST, Edge.GREATEST}) {
            CHECK.refusal("11: of an empty ROW", 3, () -> torn(0), d -> d.told(0, k));
        }
    }
}
