import java.util.Random;

/** Runs of calls by chance (the same each time), compared with the plain model. */
final class ModelTest {
    public static void main(String[] args) {
        int runs = args.length > 0 ? Integer.parseInt(args[0]) : 1500;
        for (int run = 0; run < runs && !Check.failed(); run++) {
            shortRun(run);
            fullRun(run);
        }
        Check.holds("the runs", !Check.failed());
        Check.end();
    }

    private static int pace(int run) {
        return run % 4 * 30;
    }

    /** Some calls, settle, and a look at everything; in all more calls than are promised. */
    private static void shortRun(int run) {
        Random random = new Random(run);
        Pair pair = new Pair("short run " + run, 2 + random.nextInt(6), 1 + random.nextInt(4));
        for (int round = 0; round < 3; round++) {
            for (int i = 0; i < 30; i++) {
                pair.callByChance(random, pace(run));
            }
            pair.settle();
            pair.compareAll();
        }
    }

    /** All the calls that an object is made for, and a last look. */
    private static void fullRun(int run) {
        Random random = new Random(-1 - run);
        Pair pair = new Pair("full run " + run, 3 + random.nextInt(4), 2 + random.nextInt(2));
        while (pair.callsSoFar() < 490) {
            pair.callByChance(random, pace(run));
        }
        pair.settle();
        pair.compareAll();
    }
}
