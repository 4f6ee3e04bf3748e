import java.util.ArrayList;
import java.util.List;
import java.util.Random;

/** A group and the model of it, called alike, with each answer compared. */
final class Pair {
    final VersionGroup group;
    final Model model;
    private final String name;
    private final List<String> calls = new ArrayList<>();
    private boolean wrong;
    private int number;

    Pair(String name, int nodes, int copies) {
        this.name = name;
        group = new VersionGroup(nodes, copies);
        model = new Model(nodes, copies);
        calls.add("new(" + nodes + ", " + copies + ")");
    }

    int callsSoFar() {
        return number;
    }

    String story() {
        return name + ": " + String.join("; ", calls);
    }

    private void note(String call) {
        calls.add(call);
        number++;
    }

    private void due(String call, long got, long want) {
        note(call);
        if (got != want) {
            judge(story(), got, want);
        }
    }

    /** For calls that only ask: they would make the story long and explain nothing. */
    private void compare(String call, long got, long want) {
        number++;
        if (got != want) {
            judge(story() + "; " + call, got, want);
        }
    }

    /** Only the first fault of a pair is told: the others follow from it. */
    private void judge(String story, long got, long want) {
        if (!wrong) {
            wrong = true;
            Check.due(story, got, want);
        }
    }

    void give(int kind, int k, int v) {
        due("give(" + kind + ", " + k + ", " + v + ")", group.give(kind, k, v), model.give(kind, k, v));
    }

    void deliver(int k) {
        note("deliver(" + k + ")");
        group.deliver(k);
        model.disturb();
    }

    void lose(int k) {
        note("lose(" + k + ")");
        group.lose(k);
        model.disturb();
    }

    void twice(int k) {
        note("twice(" + k + ")");
        group.twice(k);
        model.disturb();
    }

    void stir(int n, int seed) {
        due("stir(" + n + ", " + seed + ")", group.stir(n, seed), model.several(n, 500));
    }

    void tick(int n) {
        due("tick(" + n + ")", group.tick(n), model.several(n, 50));
    }

    void crash(int n, boolean kept) {
        due("crash(" + n + ", " + kept + ")", group.crash(n, kept) ? 1 : 0, model.turn(n, true) ? 1 : 0);
    }

    void restart(int n) {
        due("restart(" + n + ")", group.restart(n) ? 1 : 0, model.turn(n, false) ? 1 : 0);
    }

    void map(int set) {
        due("map(" + set + ")", group.map(set), model.map(set));
    }

    void settle() {
        due("settle()", group.settle(), model.settle());
    }

    void answer(int command) {
        compare("answer(" + command + ")", group.answer(command), model.answer(command));
    }

    void at(int n, int k, int what) {
        compare("at(" + n + ", " + k + ", " + what + ")", group.at(n, k, what), model.at(n, k, what));
    }

    void count(int what) {
        compare("count(" + what + ")", group.count(what), model.count(what));
    }

    /** All that can be seen. */
    void compareAll() {
        for (int what = -1; what < 7; what++) {
            count(what);
        }
        for (int command = -1; command <= model.count(0); command++) {
            answer(command);
        }
        for (int n = -1; n <= model.nodes; n++) {
            for (int k = -1; k <= 40; k++) {
                for (int what = -1; what < 3; what++) {
                    at(n, k, what);
                }
            }
        }
    }

    /** Calls by chance: in pace of 100 cases such as help the nodes on with their work. */
    void callByChance(Random random, int pace) {
        if (random.nextInt(100) < pace) {
            helpOn(random);
        } else {
            disturbOrAsk(random);
        }
    }

    private void helpOn(Random random) {
        tick(1);
        // Most messages come, in any order; those that wait come in a later epoch.
        int most = random.nextInt(20);
        for (int i = 0; i < most; i++) {
            deliver(random.nextInt());
        }
    }

    /** Few keys and small numbers, so that commands touch one another. */
    private void disturbOrAsk(Random random) {
        switch (random.nextInt(20)) {
            case 0: case 1: case 2: case 3:
                give(random.nextInt(5), random.nextInt(4), random.nextInt(4));
                break;
            case 4:
                give(random.nextInt(8) - 1, random.nextInt(44) - 2, random.nextInt());
                break;
            case 5:
                deliver(random.nextInt());
                break;
            case 6:
                lose(random.nextInt());
                break;
            case 7:
                twice(random.nextInt());
                break;
            case 8:
                stir(random.nextInt(30) == 0 ? random.nextInt(520) - 10 : 1 + random.nextInt(60), random.nextInt());
                break;
            case 9: case 10: case 11:
                tick(random.nextInt(30) == 0 ? random.nextInt(60) - 5 : 1 + random.nextInt(3));
                break;
            case 12:
                crash(random.nextInt(model.nodes + 2) - 1, random.nextBoolean());
                break;
            case 13: case 14:
                restart(random.nextInt(model.nodes + 2) - 1);
                break;
            case 15:
                map(random.nextInt(4) == 0 ? random.nextInt() : ~(1 << random.nextInt(model.nodes)));
                break;
            case 16:
                answer(random.nextInt(model.count(0) + 2) - 1);
                break;
            case 17:
                at(random.nextInt(model.nodes + 2) - 1, random.nextInt(42) - 1, random.nextInt(4) - 1);
                break;
            case 18:
                count(random.nextInt(8) - 1);
                break;
            default:
                if (random.nextInt(3) == 0) {
                    settle();
                }
                break;
        }
    }
}
