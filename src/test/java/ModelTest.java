import java.util.Arrays;
import java.util.Random;

/**
 * Long runs of calls drawn by fixed seeds, made both on a desk and on the model of the document:
 * all answers must be alike, and no call may throw. An object is used for 512 calls at most.
 */
public final class ModelTest {
    private static final int RUNS = Integer.getInteger("apron.runs", 3_000);
    private static final int CALLS = 512;
    private static final int MOST_TOLD = 5;
    private static final int[] ODD = {
        Integer.MIN_VALUE, -2_881, -41, -2, -1, 0, 1, 9, 10, 23, 24, 25, 39, 40, 41, 60, 61, 200, 201,
        1_319, 1_320, 1_559, 1_560, 2_879, 2_880, 2_881, Integer.MAX_VALUE - 1, Integer.MAX_VALUE,
    };

    private final Random random;
    private final Both both = new Both();
    private final int[] statuses;
    private final int spread;
    private final int hostile;
    private int stands;
    private int visits;
    private int now;

    private ModelTest(long seed, int[] statuses) {
        random = new Random(seed);
        this.statuses = statuses;
        spread = new int[] {60, 300, 2_880}[random.nextInt(3)];
        hostile = seed % 10 == 0 ? 4 : 200;
    }

    public static void main(String[] args) throws Exception {
        int[] statuses = new int[12];
        int told = 0;
        for (int seed = 0; seed < RUNS && told < MOST_TOLD; seed++) {
            ModelTest run = new ModelTest(seed, statuses);
            run.go();
            if (!run.both.areAlike()) {
                told++;
                System.out.println("seed " + seed + ":");
                run.both.tellAll();
            }
        }
        System.out.println("how often each STATUS came: " + Arrays.toString(statuses));
        boolean all = Arrays.stream(statuses).allMatch(n -> n > 0);
        if (told > 0 || !all) {
            System.exit(1);
        }
    }

    private void go() throws Exception {
        switch (random.nextInt(6)) {
            case 0 -> tellAsMuchAsThereMayBe();
            case 1 -> searchALot();
            default -> tellStands(1 + random.nextInt(7));
        }
        while (both.calls() < CALLS - 16 && both.areAlike()) {
            drawCall();
            lookAtStatus();
            compareOne();
        }
    }

    private void lookAtStatus() throws Exception {
        statuses[(Integer) call("status")]++;
        call("reason", 0);
        call("reason", 1);
    }

    private void tellStands(int count) throws Exception {
        for (int s = 0; s < count; s++) {
            tellStand();
        }
    }

    private void tellAsMuchAsThereMayBe() throws Exception {
        tellStands(20 + random.nextInt(7));
        for (int v = random.nextInt(42); v >= 0; v--) {
            tellVisit();
        }
        for (int p = random.nextInt(42); p >= 0; p--) {
            call("near", aStand(), aStand(), limit(), limit());
        }
        for (int c = random.nextInt(22); c >= 0; c--) {
            call("cone", aStand(), aMinute(), aMinute());
        }
        lookAtStatus();
    }

    private void searchALot() throws Exception {
        tellStands(2 + random.nextInt(12));
        int wanted = 2 + random.nextInt(5);
        for (int v = 0; v < wanted; v++) {
            tellVisit();
        }
        for (int i = 0; i < 12; i++) {
            call(random.nextBoolean() ? "search" : "most");
            lookAtStatus();
            for (int v = 0; v < visits; v++) {
                if (random.nextInt(4) != 0) {
                    call("stay", v, 0, 0);
                    call("off", v);
                }
            }
            tellVisit();
        }
    }

    private Object call(String name, Integer... args) throws ReflectiveOperationException {
        return both.call(name, args);
    }

    private int odd(int usual) {
        return random.nextInt(hostile) == 0 ? ODD[random.nextInt(ODD.length)] : usual;
    }

    private int width() {
        return odd(10 + 10 * random.nextInt(random.nextInt(4) == 0 ? 20 : 8));
    }

    private int limit() {
        return odd(10 * random.nextInt(12));
    }

    private int aStand() {
        return odd(random.nextInt(stands + (random.nextInt(20) == 0 ? 2 : stands == 0 ? 1 : 0)));
    }

    private int aVisit() {
        return odd(random.nextInt(visits + (random.nextInt(20) == 0 ? 2 : visits == 0 ? 1 : 0)));
    }

    private int aMinute() {
        int base = spread == 300 ? 1_250 : 0;
        return odd(Math.min(2_879, base + random.nextInt(spread)));
    }

    private void drawCall() throws Exception {
        int draw = random.nextInt(100);
        if (draw < 17) {
            tellVisit();
        } else if (draw < 24) {
            tellGround();
        } else if (draw < 44) {
            call(random.nextInt(6) == 0 ? "why" : "put", aVisit(), aStand());
        } else if (draw < 56) {
            tow();
        } else if (draw < 66) {
            late();
        } else if (draw < 74) {
            call("swap", aVisit(), aVisit());
        } else {
            drawOther(draw);
        }
    }

    private void tow() throws Exception {
        int v = aVisit();
        int last = (Integer) call("stays", v) - 1;
        int from = Math.max(now, (Integer) call("stay", v, last, 1));
        int end = (Integer) call("stay", v, last, 2);
        int minute = from + 1 + random.nextInt(Math.max(1, end - from));
        call("tow", v, odd(minute), aStand());
    }

    private void late() throws Exception {
        int v = aVisit();
        int out = (Integer) call("told", v, 3);
        call("late", v, odd(out + random.nextInt(Math.max(2, spread / 4))));
        call("changed", odd(random.nextInt(3)));
    }

    private void tellVisit() throws Exception {
        int in = aMinute();
        int length = 1 + random.nextInt(Math.max(2, spread / 3));
        int need = random.nextInt(4) == 0 ? random.nextInt(3) : 0;
        int kind = odd(1 + random.nextInt(4));
        if ((Integer) call("visit", kind, width(), in, odd(in + length), odd(need)) >= 0) {
            visits++;
        }
        if (random.nextInt(8) == 0) {
            call("tear", aVisit(), odd(2 + random.nextInt(4)));
        }
    }

    private void tellGround() throws Exception {
        switch (random.nextInt(5)) {
            case 0 -> tellStand();
            case 1 -> call("cone", aStand(), aMinute(), aMinute());
            case 2 -> call("towtime", odd(1 + random.nextInt(8)));
            default -> call("near", aStand(), aStand(), limit(), limit());
        }
    }

    private void tellStand() throws Exception {
        if ((Integer) call("stand", odd(1 + random.nextInt(5)), width()) >= 0) {
            stands++;
        }
    }

    private void drawOther(int draw) throws Exception {
        if (draw < 78) {
            call("off", aVisit());
        } else if (draw < 81) {
            call("plan");
        } else if (draw < 85) {
            call(random.nextBoolean() ? "search" : "most");
        } else if (draw < 89) {
            int next = now + random.nextInt(Math.max(2, spread / 20));
            Object answer = call("now", odd(next));
            now = (Integer) answer >= 0 ? Math.max(now, next) : now;
        } else if (draw < 92) {
            call("crowd", aMinute(), width(), odd(random.nextInt(3)));
        } else if (draw < 95) {
            call("at", aStand(), aMinute(), odd(random.nextInt(3)));
        } else if (draw < 97) {
            call("told", aVisit(), odd(random.nextInt(6)));
        } else if (draw < 98) {
            call("ground", aStand(), odd(random.nextInt(3)));
        } else {
            call("waiting");
        }
    }

    /** One visit is looked at behind each call, so that a difference is told soon. */
    private void compareOne() throws Exception {
        if (random.nextInt(3) != 0) {
            return;
        }
        int v = aVisit();
        Object count = call("stays", v);
        int k = odd((Integer) count > 0 ? random.nextInt((Integer) count) : 0);
        for (int what = 0; what < 3; what++) {
            call("stay", v, k, what);
        }
    }
}
