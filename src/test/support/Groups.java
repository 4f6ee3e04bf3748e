/** What several tests do with a group. */
final class Groups {
    static final int MIN = Integer.MIN_VALUE;
    static final int MAX = Integer.MAX_VALUE;

    private Groups() {
    }

    static VersionGroup calm(int nodes, int copies) {
        VersionGroup group = new VersionGroup(nodes, copies);
        group.settle();
        return group;
    }

    /** A group that is not calm: a node is down, two are in, commands are open and messages under way. */
    static VersionGroup busy() {
        VersionGroup group = calm(4, 2);
        group.give(0, 3, 30);
        group.settle();
        group.give(0, 3, 31);
        group.give(4, 3, 4);
        group.map(6);
        group.crash(1, true);
        group.tick(2);
        group.deliver(0);
        return group;
    }

    /** A group that can take no command more. */
    static VersionGroup full() {
        VersionGroup group = new VersionGroup(5, 3);
        giveMany(group, 8);
        return group;
    }

    static void giveMany(VersionGroup group, int commands) {
        for (int i = 0; i < commands; i++) {
            group.give(3, 0, 1);
        }
    }

    /** Gives one command and settles. */
    static long answerTo(VersionGroup group, int kind, int k, int v) {
        int number = group.give(kind, k, v);
        group.settle();
        return group.answer(number);
    }

    /** Lets ticks pass and all messages come, as a call of settle would, but by other calls. */
    static void run(VersionGroup group, int ticks) {
        Inside inside = new Inside(group);
        for (int i = 0; i < ticks; i++) {
            for (int j = 0; j < 1000 && inside.underWay() > 0; j++) {
                group.deliver(0);
            }
            group.tick(1);
        }
    }

    /** Only one message is under way: a command that was done, which the leader answers as often as it comes. */
    static VersionGroup withOneQuestion() {
        VersionGroup group = calm(3, 2);
        Inside inside = new Inside(group);
        group.give(3, 0, 1);
        for (int i = 0; i < 20 && inside.done(2, "known") == 0; i++) {
            run(group, 1);
        }
        loseAllBut(group, "");
        group.tick(1);
        loseAllBut(group, "COMMAND");
        Check.due("messages under way", inside.underWay(), 1);
        return group;
    }

    static void loseFirst(VersionGroup group, int messages) {
        for (int i = 0; i < messages; i++) {
            group.lose(0);
        }
    }

    private static void loseAllBut(VersionGroup group, String kind) {
        Inside inside = new Inside(group);
        for (int place = inside.underWay() - 1; place >= 0; place--) {
            if (!inside.message(place, "kind").toString().equals(kind)) {
                group.lose(place);
            }
        }
    }

    /** The R nodes of the greatest rank out of a set, none if there are fewer: found by trying. */
    static int keepers(int nodes, int copies, int set) {
        int chosen = 0;
        for (int rank = 10; rank >= 0; rank--) {
            for (int n = 0; n < nodes; n++) {
                if (n * 37 % 11 == rank && (set >>> n & 1) != 0 && Integer.bitCount(chosen) < copies) {
                    chosen |= 1 << n;
                }
            }
        }
        return Integer.bitCount(chosen) < copies ? 0 : chosen;
    }

    /** The nodes of a calm group that have a value of the key. */
    static int holders(VersionGroup group, int k) {
        int holders = 0;
        for (int n = 0; n < group.count(3); n++) {
            holders |= (int) group.at(n, k, 0) << n;
        }
        return holders;
    }
}
