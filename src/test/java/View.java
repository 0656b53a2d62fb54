/**
 * All that can be seen of a desk, as one text. Two desks that were told the same have the same view;
 * so a refused call, made on one of them alone, must leave the views alike. It takes some 400 calls at
 * the most, and the desk is used up.
 */
final class View {
    private static final int ROW = 5;
    private static final int[] MINUTES_OF_CONES = {0, 99, 500, 2_879};
    private static final int[] MINUTES_OF_CROWDS = {120, 160, 215, 255};
    private static final int[] MINUTES_OF_NOW = {0, 1, 98, 99, 100, 101, 102, 2_878, 2_879};

    private final ApronDesk desk;
    private final StringBuilder text = new StringBuilder();

    private View(ApronDesk desk) {
        this.desk = desk;
    }

    static String of(ApronDesk desk) {
        View view = new View(desk);
        view.tell("reason", desk.reason(0), desk.reason(1));
        return view.lookAtAll();
    }

    /** For calls with STATUS 8 or 9, which tell their REASON. */
    static String besidesReason(ApronDesk desk) {
        return new View(desk).lookAtAll();
    }

    private void tell(String name, int... answers) {
        text.append(' ').append(name);
        for (int answer : answers) {
            text.append(' ').append(answer);
        }
    }

    private String lookAtAll() {
        tell("waiting", desk.waiting(), desk.changed(0), desk.changed(1), desk.changed(2));
        lookAtStands();
        lookAtVisits();
        lookAtCrowds();
        countByOneMore();
        measureTow();
        findNow();
        return text.toString();
    }

    private void lookAtStands() {
        for (int s = 0; s < 25; s++) {
            int kind = desk.ground(s, 0);
            if (kind == ApronDesk.NONE) {
                return;
            }
            tell("stand", kind, desk.ground(s, 1));
            for (int minute : MINUTES_OF_CONES) {
                tell("cone", desk.at(s, minute, 2));
            }
        }
    }

    private void lookAtVisits() {
        for (int v = 0; v < 41; v++) {
            int stays = desk.stays(v);
            if (stays == ApronDesk.NONE) {
                return;
            }
            tell("visit", v, stays);
            for (int k = 0; k < ROW; k++) {
                tell("", desk.told(v, k));
            }
            for (int k = 0; k < stays; k++) {
                tell("stay", desk.stay(v, k, 0), desk.stay(v, k, 1), desk.stay(v, k, 2));
            }
        }
    }

    private void lookAtCrowds() {
        for (int minute : MINUTES_OF_CROWDS) {
            tell("free", desk.crowd(minute, 50, 0), desk.crowd(minute, 50, 1), desk.crowd(minute, 50, 2));
        }
    }

    private void countByOneMore() {
        tell("pairs", desk.near(0, 1, 200, 200));
        tell("cones", desk.cone(0, 2_690, 2_691));
    }

    private void measureTow() {
        int from = desk.stand(1, 200);
        int to = desk.stand(1, 200);
        int v = desk.visit(1, 10, 2_700, 2_880, 0);
        tell("numbers", from, to, v, desk.put(v, from) ? 1 : 0, desk.tow(v, 2_750, to) ? 1 : 0);
        tell("tow", desk.stay(v, 0, 2));
    }

    private void findNow() {
        for (int minute : MINUTES_OF_NOW) {
            tell("now", desk.now(minute), desk.waiting());
        }
    }
}
