import java.util.Map;
import java.util.TreeMap;

/** Random runs with fixed seeds, compared with the model call by call. */
final class RandomTests {
    private static final int RUNS = 3000;

    private RandomTests() {
    }

    static void ruleOfRandomRuns_answersAsTheModel() {
        Map<String, Integer> seen = new TreeMap<>();
        for (long seed = 0; seed < RUNS; seed++) {
            RandomRuns runs = new RandomRuns(seed);
            String wrong = runs.run();
            if (wrong != null) {
                throw new AssertionError("the run of seed " + seed + ":\n" + wrong);
            }
            runs.seen.forEach((name, count) -> seen.merge(name, count, Integer::sum));
        }
        for (String name : new String[] {"cycle", "endDay", "elect", "recall", "goBack", "causer", "link", "amend"}) {
            Checks.is("many answers of " + name, seen.getOrDefault(name, 0) > 100);
        }
    }
}
