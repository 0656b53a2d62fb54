import java.util.function.Supplier;
import java.util.function.ToIntFunction;

/** Counts the answers of one test and tells those that are not as due. */
final class Check {
    private int asked;
    private int wrong;

    void due(String call, int got, int want) {
        asked++;
        if (got != want) {
            wrong++;
            System.out.println(call + " answered " + got + ", due is " + want);
        }
    }

    void due(String call, boolean got, boolean want) {
        due(call, got ? 1 : 0, want ? 1 : 0);
    }

    /** For a call that is refused: its answer is NONE, and then its STATUS. */
    void refused(String call, int got, ApronDesk desk, int status) {
        due(call, got, ApronDesk.NONE);
        due("status() behind " + call, desk.status(), status);
    }

    void refused(String call, boolean got, ApronDesk desk, int status) {
        due(call, got, false);
        due("status() behind " + call, desk.status(), status);
    }

    /** For a call that something is against: its answer, STATUS 8, REASON and AGAINST. */
    void hindered(String call, boolean got, ApronDesk desk, int reason, int by) {
        refused(call, got, desk, 8);
        because(call, desk, reason, by);
    }

    void because(String call, ApronDesk desk, int reason, int by) {
        due("reason(0) behind " + call, desk.reason(0), reason);
        due("reason(1) behind " + call, desk.reason(1), by);
    }

    /** For a call that is done: its answer, and STATUS 0. */
    void done(String call, int got, ApronDesk desk, int want) {
        due(call, got, want);
        due("status() behind " + call, desk.status(), 0);
    }

    void done(String call, boolean got, ApronDesk desk) {
        due(call, got, true);
        due("status() behind " + call, desk.status(), 0);
    }

    /** A VISIT with the one STAY that is due, or, with stand NONE, without any. */
    void stays(ApronDesk desk, int visit, int stand, int from, int end) {
        String name = "visit " + visit;
        if (stand == ApronDesk.NONE) {
            due(name + ": stays", desk.stays(visit), 0);
            return;
        }
        due(name + ": stays", desk.stays(visit), 1);
        due(name + ": stand", desk.stay(visit, 0, 0), stand);
        due(name + ": from", desk.stay(visit, 0, 1), from);
        due(name + ": end", desk.stay(visit, 0, 2), end);
    }

    void same(String name, String got, String want) {
        asked++;
        if (!got.equals(want)) {
            wrong++;
            System.out.println(name + ":\n  seen " + got + "\n  due  " + want);
        }
    }

    /** For a call that is refused: its answer, its STATUS, and that it changes nothing else. */
    void refusal(String name, int status, Supplier<ApronDesk> scene, ToIntFunction<ApronDesk> call) {
        ApronDesk tried = scene.get();
        refused(name, call.applyAsInt(tried), tried, status);
        same(name + " changes nothing else", View.of(tried), View.of(scene.get()));
    }

    /** As refusal(), for STATUS 8 and 9, which tell a REASON and AGAINST. */
    void hindrance(String name, int status, int reason, int by, Supplier<ApronDesk> scene,
            ToIntFunction<ApronDesk> call) {
        ApronDesk tried = scene.get();
        refused(name, call.applyAsInt(tried), tried, status);
        because(name, tried, reason, by);
        same(name + " changes nothing else", View.besidesReason(tried), View.besidesReason(scene.get()));
    }

    /** The numbers from least to most can be, those beside them and far off are refused. */
    void range(String name, int least, int most, int status, Supplier<ApronDesk> scene, Edge.Call call) {
        for (int x : Edge.inside(least, most)) {
            ApronDesk desk = scene.get();
            due(name + ": " + x + " is refused", call.on(desk, x) == ApronDesk.NONE, false);
            due("status() behind " + name + ": " + x, desk.status(), 0);
        }
        for (int x : Edge.outside(least, most)) {
            refusal(name + ": " + x, status, scene, desk -> call.on(desk, x));
        }
    }

    void end() {
        System.out.println(asked + " answers, " + wrong + " not as due");
        if (wrong != 0) {
            System.exit(1);
        }
    }
}
