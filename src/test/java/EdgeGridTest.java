import java.util.Map;

/**
 * Each call of the face with each number at a bound, beside it and far off, in all ways in which they
 * can stand together, on a desk of its own; the answer, the STATUS, the REASON and all STAYS must be
 * those of the model of the document. It holds what the other Edge tests hold one by one.
 */
public final class EdgeGridTest {
    private static final int LEAST = Edge.LEAST;
    private static final int GREATEST = Edge.GREATEST;
    private static final int MOST_TOLD = 3;

    /** Desks to begin with: a new one, a busy one, one with long STAYS and a night, and a crowded TWIN. */
    private static final String[][] SCENES = {
        {},
        {
            "stand 1 60", "stand 2 80", "stand 3 100", "stand 4 200", "stand 5 90", "near 0 1 50 60",
            "cone 3 500 510", "towtime 7", "visit 1 50 150 250 0", "visit 1 40 120 300 0",
            "visit 2 190 50 600 0", "visit 1 30 400 500 0", "visit 3 70 300 400 2",
            "visit 4 20 700 1400 0", "visit 1 50 90 400 0", "visit 1 50 250 260 0",
            "visit 1 60 160 170 0", "tear 3 2", "tear 5 4", "put 0 0", "put 1 2", "tow 1 200 3",
            "put 5 4", "put 6 1", "put 7 0", "late 0 255", "now 100", "put 8 0",
        },
        {
            "stand 2 50", "stand 3 101", "stand 1 200", "visit 4 50 1000 1320 0",
            "visit 4 50 1560 2879 1", "visit 2 51 100 101 0", "visit 1 10 1 2 0", "tear 3 3", "put 0 0",
            "put 1 0", "put 2 2", "put 3 1", "tow 3 100 2", "tow 3 150 1", "cone 2 2875 2880",
            "near 1 2 50 50", "now 99",
        },
        {
            "stand 3 100", "stand 3 99", "stand 4 60", "visit 1 50 100 150 0", "visit 1 50 150 200 0",
            "visit 1 50 100 149 0", "visit 1 49 149 255 0", "visit 1 51 200 256 0", "put 0 0", "put 1 0",
            "put 2 0", "put 3 1", "near 1 0 60 49", "near 2 0 200 50", "cone 0 248 249", "now 149",
        },
    };

    private static final String[] CALLS = {
        "reason what", "stand kind width", "ground stand what", "near stand stand limit limit",
        "cone stand minute minute", "towtime towtime", "visit kind width end end what", "tear visit what",
        "told visit what", "put visit stand", "why visit stand", "off visit", "tow visit minute stand",
        "plan", "search", "most", "late visit minute", "changed what", "now minute", "waiting",
        "swap visit visit", "stays visit", "stay visit what what", "at stand minute what",
        "crowd minute width what",
    };

    private static final Map<String, int[]> NUMBERS = Map.of(
            "kind", new int[] {LEAST, -1, 0, 1, 2, 3, 4, 5, 6, GREATEST},
            "width", new int[] {LEAST, 0, 9, 10, 49, 50, 51, 200, 201, GREATEST},
            "limit", new int[] {LEAST, -1, 0, 50, 200, 201, GREATEST},
            "towtime", new int[] {LEAST, -1, 0, 1, 2, 59, 60, 61, GREATEST},
            "what", new int[] {LEAST, -1, 0, 1, 2, 3, 4, 5, 6, GREATEST},
            "stand", new int[] {LEAST, -1, 0, 1, 2, 3, 4, 5, 24, GREATEST},
            "visit", new int[] {LEAST, -1, 0, 1, 2, 3, 4, 5, 6, 7, 8, 9, 40, GREATEST},
            "end", new int[] {LEAST, -1, 0, 1, 149, 150, 2_879, 2_880, 2_881, GREATEST},
            "minute", new int[] {
                LEAST, -1, 0, 1, 98, 99, 100, 101, 148, 149, 150, 151, 194, 195, 199, 200, 201, 246, 247, 248,
                249, 254, 255, 256, 500, 501, 1_319, 1_320, 1_321, 1_559, 1_560, 2_873, 2_874, 2_875, 2_879,
                2_880, 2_881, GREATEST,
            });

    private int asked;
    private int told;

    public static void main(String[] args) throws Exception {
        EdgeGridTest test = new EdgeGridTest();
        for (String[] scene : SCENES) {
            for (String call : CALLS) {
                String[] words = call.split(" ");
                test.fill(scene, words, new Integer[words.length - 1], 0);
            }
        }
        System.out.println(test.asked + " calls, " + test.told + " not as due");
        if (test.told > 0) {
            System.exit(1);
        }
    }

    /** Tries the call with all numbers that its arguments from the given one on may have. */
    private void fill(String[] scene, String[] words, Integer[] args, int from) throws Exception {
        if (told >= MOST_TOLD) {
            return;
        }
        if (from == args.length) {
            ask(scene, words[0], args);
            return;
        }
        for (int number : NUMBERS.get(words[from + 1])) {
            args[from] = number;
            fill(scene, words, args, from + 1);
        }
    }

    private void ask(String[] scene, String name, Integer[] args) throws Exception {
        Both both = new Both();
        for (String line : scene) {
            String[] words = line.split(" ");
            Integer[] numbers = new Integer[words.length - 1];
            for (int i = 0; i < numbers.length; i++) {
                numbers[i] = Integer.valueOf(words[i + 1]);
            }
            both.call(words[0], numbers);
        }
        both.call(name, args);
        look(both);
        asked++;
        if (!both.areAlike()) {
            told++;
            both.tellAll();
        }
    }

    private void look(Both both) throws Exception {
        both.call("status");
        both.call("reason", 0);
        both.call("reason", 1);
        both.call("waiting");
        both.call("changed", 0);
        int count = 1;
        for (int v = 0; count >= 0; v++) {
            count = (Integer) both.call("stays", v);
            for (int k = 0; k < count; k++) {
                both.call("stay", v, k, 0);
                both.call("stay", v, k, 1);
                both.call("stay", v, k, 2);
            }
        }
    }
}
