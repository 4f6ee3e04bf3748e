import java.util.ArrayList;
import java.util.List;

/** What the document promises, without nodes that work: one table, done at settle. */
final class Model {
    static final int REFUSED = -1, FULL = -2, BUSY = -3;
    static final long PENDING = 1L << 40;

    final int nodes;
    final int copies;
    private final boolean[] up;
    private final List<int[]> commands = new ArrayList<>();
    private final List<Long> answers = new ArrayList<>();
    private final Integer[] table = new Integer[40];
    private int epoch = 1;
    private int set;
    private boolean calm;

    Model(int nodes, int copies) {
        this.nodes = nodes < 3 ? 3 : nodes > 6 ? 6 : nodes;
        this.copies = copies < 3 ? 2 : 3;
        up = new boolean[this.nodes];
        java.util.Arrays.fill(up, true);
        set = (1 << this.nodes) - 1;
    }

    /** The table after the first commands, a null for no value; their answers are added. */
    static Integer[] after(List<int[]> commands, int first, List<Long> answers) {
        Integer[] table = new Integer[40];
        for (int i = 0; i < first; i++) {
            answers.add(perform(table, commands.get(i)));
        }
        return table;
    }

    private static long perform(Integer[] table, int[] command) {
        int k = command[1];
        int v = command[2];
        Integer old = table[k];
        switch (command[0]) {
            case 0:
                table[k] = v;
                return old == null ? 0 : 1;
            case 1:
                table[k] = null;
                return old == null ? 0 : 1;
            case 2:
                return old == null ? 0 : old;
            case 3:
                table[k] = old == null ? v : old + v;
                return table[k];
            default:
                table[k] = null;
                table[v] = old;
                return old == null ? 0 : 1;
        }
    }

    List<int[]> commands() {
        return commands;
    }

    int give(int kind, int k, int v) {
        if (kind < 0 || kind > 4 || k < 0 || k > 39 || kind == 4 && (v < 0 || v > 39)) {
            return REFUSED;
        }
        if (commands.size() - answers.size() == 8) {
            return FULL;
        }
        calm = false;
        commands.add(new int[] {kind, k, v});
        return commands.size() - 1;
    }

    void disturb() {
        calm = false;
    }

    int several(int n, int most) {
        if (n < 1 || n > most) {
            return REFUSED;
        }
        calm = false;
        return n;
    }

    boolean turn(int n, boolean from) {
        if (n < 0 || n >= nodes || up[n] != from) {
            return false;
        }
        calm = false;
        up[n] = !from;
        return true;
    }

    int map(int wanted) {
        calm = false;
        set = wanted & (1 << nodes) - 1;
        return ++epoch;
    }

    int settle() {
        java.util.Arrays.fill(up, true);
        map(-1);
        int open = commands.size() - answers.size();
        for (int i = answers.size(); i < commands.size(); i++) {
            answers.add(perform(table, commands.get(i)));
        }
        calm = true;
        return open;
    }

    long answer(int command) {
        if (command < 0 || command >= commands.size()) {
            return REFUSED;
        }
        return command < answers.size() ? answers.get(command) : PENDING;
    }

    long at(int n, int k, int what) {
        if (n < 0 || n >= nodes || k < 0 || k > 39 || what < 0 || what > 1) {
            return REFUSED;
        }
        if (!calm) {
            return BUSY;
        }
        if (!keeps(n) || table[k] == null) {
            return 0;
        }
        return what == 0 ? 1 : table[k];
    }

    /** With all nodes in: whether fewer than R nodes have a greater rank. */
    private boolean keeps(int n) {
        int greater = 0;
        for (int other = 0; other < nodes; other++) {
            if (other * 37 % 11 > n * 37 % 11) {
                greater++;
            }
        }
        return greater < copies;
    }

    int count(int what) {
        switch (what) {
            case 0:
                return commands.size();
            case 1:
                return commands.size() - answers.size();
            case 2:
                return epoch;
            case 3:
                int sum = 0;
                for (boolean one : up) {
                    sum += one ? 1 : 0;
                }
                return sum;
            case 4:
                return set;
            case 5:
                return calm ? 1 : 0;
            default:
                return REFUSED;
        }
    }
}
