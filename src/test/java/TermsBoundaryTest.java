/** Each sentence of the document's terms that names a boundary case, in their order. */
final class TermsBoundaryTest {
    private static final int REFUSED = VersionGroup.REFUSED;
    private static final int FULL = VersionGroup.FULL;
    private static final int BUSY = VersionGroup.BUSY;
    private static final long PENDING = VersionGroup.PENDING;
    private static final int MIN = Groups.MIN;
    private static final int MAX = Groups.MAX;
    private static final int SET = 0, CLEAR = 1, GET = 2, ADD = 3, MOVE = 4;
    private static final String KNOWN = "known";
    private static final String FLUSHED = "flushed";

    public static void main(String[] args) {
        nodesAreNumberedFrom0();
        allNodesAreUpAtFirst();
        allMessagesAreLost();
        allMessagesComeTwice();
        theLatestMessageComesFirst();
        allNodesAreInAtFirst();
        theEpochIs1AtFirst();
        eachMapIsOneEpochMore();
        copiesAreOnTheGreatestRanks();
        nothingIsDoneWithTooFewIn();
        nothingIsDoneWithTooFewUp();
        nothingIsDoneWithOneInThatIsDown();
        justEnoughNodesDo();
        theFirstAndTheLastKey();
        noKeyHasAValueAtFirst();
        aValueIsAnyInt();
        commandsAreNumberedFrom0();
        commandsAreDoneInOrderAndOnce();
        answersComeByTheNextSettle();
        atMost8HaveNone();
        set();
        clear();
        get();
        add();
        addWraps();
        addToNone();
        move();
        moveOfNone();
        moveToItself();
        calmFromSettle();
        calmUntilGiveIsTaken();
        calmUntilDeliverLoseOrTwice();
        calmUntilStirOrTick();
        calmUntilCrashDoesSomething();
        calmUntilRestartDoesSomething();
        calmUntilMap();
        askingKeepsCalm();
        whatIsRefusedChangesNothing();
        all512Calls();
        Check.end();
    }

    private static void dueCalm(VersionGroup group, int want) {
        Check.due("count(5)", group.count(5), want);
        Check.due("at(0, 0, 0)", group.at(0, 0, 0), want == 1 ? 0 : BUSY);
    }

    private static void nodesAreNumberedFrom0() {
        Check.about(0, "NODES 0 to N - 1");
        for (int nodes = 3; nodes <= 6; nodes++) {
            VersionGroup group = Groups.calm(nodes, 2);
            for (int n : new int[] {MIN, -1, nodes, nodes + 1, MAX}) {
                Check.holds("no crash(" + n + ")", !group.crash(n, true));
                Check.holds("no restart(" + n + ")", !group.restart(n));
                Check.due("at(" + n + ")", group.at(n, 0, 0), REFUSED);
            }
            for (int n : new int[] {0, nodes - 1}) {
                Check.due("at(" + n + ")", group.at(n, 0, 0), 0);
            }
            for (int n : new int[] {0, nodes - 1}) {
                Check.holds("crash(" + n + ")", group.crash(n, true));
                Check.holds("restart(" + n + ")", group.restart(n));
            }
        }
    }

    private static void allNodesAreUpAtFirst() {
        Check.about(0, "are UP or DOWN (all UP at first)");
        for (int nodes = 3; nodes <= 6; nodes++) {
            VersionGroup group = new VersionGroup(nodes, 3);
            Check.due("nodes up", group.count(3), nodes);
            for (int n = 0; n < nodes; n++) {
                Check.holds("node " + n + " is not down", !group.restart(n));
                Check.holds("node " + n + " is up", group.crash(n, false));
            }
            Check.due("nodes up", group.count(3), 0);
        }
    }

    /** Sums that show what was done twice, not at all, or in another order. */
    private static VersionGroup withEightSums() {
        VersionGroup group = Groups.calm(6, 3);
        for (int i = 0; i < 8; i++) {
            group.give(ADD, 7, 1 << i);
        }
        return group;
    }

    private static void dueEightSums(VersionGroup group) {
        Check.due("settle", group.settle(), 8);
        for (int i = 0; i < 8; i++) {
            Check.due("answer(" + i + ")", group.answer(i), (2 << i) - 1);
        }
        Check.due("the value", group.at(5, 7, 1), 255);
    }

    private static void allMessagesAreLost() {
        Check.about(0, "which may be lost");
        VersionGroup group = withEightSums();
        Inside inside = new Inside(group);
        for (int i = 0; i < 20; i++) {
            for (int j = 0; j < 100 && inside.underWay() > 0; j++) {
                group.lose(j);
            }
            Check.due("under way", inside.underWay(), 0);
            group.tick(1);
        }
        Check.due("done", inside.done(5, KNOWN), 0);
        dueEightSums(group);
    }

    private static void allMessagesComeTwice() {
        Check.about(0, "come twice");
        VersionGroup group = withEightSums();
        Inside inside = new Inside(group);
        for (int i = 0; i < 20; i++) {
            for (int j = 0; j < 1000 && inside.underWay() > 0; j++) {
                group.twice(j);
            }
            group.tick(1);
        }
        Check.due("done", inside.done(5, KNOWN), 8);
        dueEightSums(group);
    }

    private static void theLatestMessageComesFirst() {
        Check.about(0, "and come in any order");
        VersionGroup group = withEightSums();
        Inside inside = new Inside(group);
        for (int i = 0; i < 20; i++) {
            // Some stay each time, and come long after those that were sent later.
            for (int j = 0; j < 1000 && inside.underWay() > 10; j++) {
                group.deliver(inside.underWay() - 1);
            }
            group.tick(1);
        }
        for (int j = 0; j < 1000 && inside.underWay() > 0; j++) {
            group.deliver(inside.underWay() - 1);
        }
        Check.due("done", inside.done(5, KNOWN), 8);
        dueEightSums(group);
    }

    private static void allNodesAreInAtFirst() {
        Check.about(0, "the set of the NODES that are IN (all at first)");
        for (int nodes = 3; nodes <= 6; nodes++) {
            Check.due("nodes in", new VersionGroup(nodes, 2).count(4), (1 << nodes) - 1);
        }
    }

    private static void theEpochIs1AtFirst() {
        Check.about(0, "with an EPOCH, 1 at first");
        Check.due("epoch", new VersionGroup(3, 3).count(2), 1);
        Check.due("epoch", new VersionGroup(6, 2).count(2), 1);
    }

    private static void eachMapIsOneEpochMore() {
        Check.about(0, "1 more with each new MAP");
        VersionGroup group = new VersionGroup(3, 2);
        for (int i = 0; i < 250; i++) {
            Check.due("map", group.map(i), 2 + i);
            Check.due("epoch", group.count(2), 2 + i);
        }
        group.settle();
        Check.due("epoch after settle", group.count(2), 252);
    }

    private static void copiesAreOnTheGreatestRanks() {
        Check.about(0, "on the R NODES IN of the greatest RANK");
        for (int nodes = 3; nodes <= 6; nodes++) {
            for (int copies = 2; copies <= 3; copies++) {
                for (int set = 0; set < 1 << nodes; set++) {
                    dueCopies(nodes, copies, set);
                }
            }
        }
    }

    /** One command is done before the map and one is given after it. */
    private static void dueCopies(int nodes, int copies, int set) {
        VersionGroup group = Groups.calm(nodes, copies);
        Groups.answerTo(group, SET, 0, 1);
        group.map(set);
        group.give(SET, 0, 2);
        Groups.run(group, 15);
        int keepers = Groups.keepers(nodes, copies, set);
        Inside inside = new Inside(group);
        for (int n = 0; n < nodes; n++) {
            int due = (keepers >>> n & 1) * 2;
            if (keepers == 0) {
                due = Groups.keepers(nodes, copies, -1) >>> n & 1;
            }
            Check.due("map(" + set + ") of " + nodes + ", " + copies + ": done by node " + n,
                inside.done(n, FLUSHED), due);
        }
        Check.due("settle", group.settle(), 1);
        Check.due("copies after settle", Groups.holders(group, 0), Groups.keepers(nodes, copies, -1));
    }

    private static void dueNothingDone(String when, VersionGroup group) {
        Inside inside = new Inside(group);
        for (int n = 0; n < inside.nodes(); n++) {
            Check.due(when + ": done by node " + n, inside.done(n, KNOWN), 0);
        }
        Check.holds(when + ": no answer", !inside.arrived(0));
    }

    private static void nothingIsDoneWithTooFewIn() {
        Check.about(0, "nothing is done without R NODES that are IN");
        for (int copies = 2; copies <= 3; copies++) {
            for (int set = 0; set < 64; set++) {
                if (Integer.bitCount(set) < copies) {
                    VersionGroup group = Groups.calm(6, copies);
                    group.map(set);
                    group.give(SET, 0, 1);
                    Groups.run(group, 10);
                    dueNothingDone("map(" + set + "), " + copies + " copies", group);
                }
            }
        }
    }

    private static void nothingIsDoneWithTooFewUp() {
        Check.about(0, "nothing is done without R NODES that are IN and UP");
        for (int copies = 2; copies <= 3; copies++) {
            for (int up = 0; up < 64; up++) {
                if (Integer.bitCount(up) < copies) {
                    VersionGroup group = Groups.calm(6, copies);
                    crashOthers(group, up);
                    group.give(SET, 0, 1);
                    Groups.run(group, 10);
                    dueNothingDone("up is " + up + ", " + copies + " copies", group);
                }
            }
        }
    }

    private static void crashOthers(VersionGroup group, int up) {
        for (int n = 0; n < 6; n++) {
            if ((up >>> n & 1) == 0) {
                group.crash(n, true);
            }
        }
    }

    private static void nothingIsDoneWithOneInThatIsDown() {
        Check.about(0, "nothing is done without R NODES that are IN and UP");
        for (int set : new int[] {0b000111, 0b110100, 0b100101}) {
            for (int n = 0; n < 6; n++) {
                if ((set >>> n & 1) != 0) {
                    VersionGroup group = Groups.calm(6, 3);
                    group.map(set);
                    Groups.run(group, 10);
                    group.crash(n, false);
                    group.give(SET, 0, 1);
                    Groups.run(group, 10);
                    dueNothingDone("map(" + set + ") and crash(" + n + ")", group);
                }
            }
        }
    }

    private static void justEnoughNodesDo() {
        Check.about(0, "nothing is done without R NODES that are IN and UP");
        for (int copies = 2; copies <= 3; copies++) {
            VersionGroup group = Groups.calm(6, copies);
            int set = copies == 2 ? 0b001001 : 0b001011;
            group.map(set);
            Groups.run(group, 10);
            crashOthers(group, set);
            group.give(SET, 0, 1);
            Groups.run(group, 10);
            Check.holds("with " + copies + " the answer comes", new Inside(group).arrived(0));
        }
    }

    private static void theFirstAndTheLastKey() {
        Check.about(0, "KEYS 0 to 39");
        VersionGroup group = new VersionGroup(3, 3);
        Check.due("key -1", group.give(SET, -1, 5), REFUSED);
        Check.due("key 40", group.give(SET, 40, 5), REFUSED);
        Check.due("key 0", Groups.answerTo(group, SET, 0, 5), 0);
        Check.due("key 39", Groups.answerTo(group, SET, 39, 6), 0);
        for (int k = 0; k < 40; k++) {
            Check.due("has key " + k, group.at(1, k, 0), k == 0 || k == 39 ? 1 : 0);
        }
        Check.due("value of key 0", group.at(1, 0, 1), 5);
        Check.due("value of key 39", group.at(1, 39, 1), 6);
    }

    private static void noKeyHasAValueAtFirst() {
        Check.about(0, "each with a VALUE (an int) or none (at first)");
        VersionGroup group = Groups.calm(6, 3);
        for (int n = 0; n < 6; n++) {
            for (int k = 0; k < 40; k++) {
                Check.due("has", group.at(n, k, 0), 0);
                Check.due("value", group.at(n, k, 1), 0);
            }
        }
        for (int kind : new int[] {SET, CLEAR, GET, MOVE}) {
            Check.due("the first answer", Groups.answerTo(new VersionGroup(4, 2), kind, 39, 9), 0);
        }
    }

    private static void aValueIsAnyInt() {
        Check.about(0, "each with a VALUE (an int)");
        for (int value : new int[] {MIN, MIN + 1, -1, 0, 1, 40, MAX - 1, MAX}) {
            VersionGroup group = new VersionGroup(5, 3);
            group.give(SET, 12, value);
            Check.due("GET", Groups.answerTo(group, GET, 12, 0), value);
            Check.due("has", group.at(2, 12, 0), 1);
            Check.due("value", group.at(2, 12, 1), value);
        }
    }

    private static void commandsAreNumberedFrom0() {
        Check.about(0, "COMMANDS are numbered 0, 1, .. as they are given");
        VersionGroup group = new VersionGroup(3, 2);
        for (int i = 0; i < 8; i++) {
            Check.due("wrong", group.give(9, 0, 0), REFUSED);
            Check.due("the number", group.give(GET, 0, 0), i);
        }
        Check.due("no more", group.give(GET, 0, 0), FULL);
        group.settle();
        Check.due("the number", group.give(GET, 0, 0), 8);
    }

    private static void commandsAreDoneInOrderAndOnce() {
        Check.about(0, "and done in this order, each once");
        VersionGroup group = new VersionGroup(6, 3);
        int[][] commands = {{SET, 1, 5}, {ADD, 1, 1}, {MOVE, 1, 2}, {GET, 1, 0}, {ADD, 1, 9}, {CLEAR, 2, 0},
            {MOVE, 1, 2}, {ADD, 2, -10}};
        long[] answers = {0, 6, 1, 0, 9, 1, 1, -1};
        for (int[] command : commands) {
            group.give(command[0], command[1], command[2]);
            group.tick(1);
            group.stir(20, command[1]);
        }
        group.settle();
        for (int i = 0; i < answers.length; i++) {
            Check.due("answer(" + i + ")", group.answer(i), answers[i]);
        }
    }

    private static void answersComeByTheNextSettle() {
        Check.about(0, "each has its ANSWER by the next call of settle");
        for (int open = 1; open <= 8; open++) {
            VersionGroup group = new VersionGroup(4, 3);
            Groups.giveMany(group, open);
            group.settle();
            Check.due("without an answer", group.count(1), 0);
            for (int i = 0; i < open; i++) {
                Check.due("answer(" + i + ")", group.answer(i), i + 1);
            }
        }
    }

    private static void atMost8HaveNone() {
        Check.about(0, "and until then at most 8 have none");
        VersionGroup group = new VersionGroup(4, 3);
        Groups.giveMany(group, 20);
        Check.due("commands", group.count(0), 8);
        Check.due("without an answer", group.count(1), 8);
        group.settle();
        Groups.giveMany(group, 20);
        Check.due("commands", group.count(0), 16);
        Check.due("without an answer", group.count(1), 8);
    }

    private static void dueKey(VersionGroup group, int k, int has, int value) {
        // Of three nodes, node 2 has the greatest rank.
        Check.due("has key " + k, group.at(2, k, 0), has);
        Check.due("value of key " + k, group.at(2, k, 1), value);
    }

    private static void set() {
        Check.about(0, "SET k v: KEY k has VALUE v then: 1 if it had one before, else 0");
        VersionGroup group = new VersionGroup(3, 2);
        Check.due("the first", Groups.answerTo(group, SET, 0, 0), 0);
        dueKey(group, 0, 1, 0);
        Check.due("after VALUE 0", Groups.answerTo(group, SET, 0, MIN), 1);
        Check.due("the same again", Groups.answerTo(group, SET, 0, MIN), 1);
        dueKey(group, 0, 1, MIN);
        group.give(CLEAR, 0, 0);
        Check.due("after CLEAR", Groups.answerTo(group, SET, 0, MAX), 0);
        dueKey(group, 0, 1, MAX);
        dueKey(group, 1, 0, 0);
    }

    private static void clear() {
        Check.about(0, "CLEAR k: it has none then: 1 if it had one, else 0");
        VersionGroup group = new VersionGroup(3, 2);
        Check.due("none", Groups.answerTo(group, CLEAR, 39, 0), 0);
        group.give(SET, 39, 0);
        group.give(SET, 38, 5);
        Check.due("VALUE 0", Groups.answerTo(group, CLEAR, 39, 40), 1);
        dueKey(group, 39, 0, 0);
        dueKey(group, 38, 1, 5);
        Check.due("once more", Groups.answerTo(group, CLEAR, 39, 0), 0);
        Check.due("a VALUE", Groups.answerTo(group, CLEAR, 38, -1), 1);
        dueKey(group, 38, 0, 0);
    }

    private static void get() {
        Check.about(0, "GET k: its VALUE, 0 if none");
        VersionGroup group = new VersionGroup(3, 2);
        Check.due("none", Groups.answerTo(group, GET, 20, 7), 0);
        dueKey(group, 20, 0, 0);
        group.give(SET, 20, -1);
        Check.due("VALUE -1", Groups.answerTo(group, GET, 20, 7), -1);
        dueKey(group, 20, 1, -1);
        group.give(SET, 20, 0);
        Check.due("VALUE 0", Groups.answerTo(group, GET, 20, 7), 0);
        dueKey(group, 20, 1, 0);
        group.give(CLEAR, 20, 0);
        Check.due("cleared", Groups.answerTo(group, GET, 20, 7), 0);
    }

    private static void add() {
        Check.about(0, "ADD k v: if it has a VALUE that grows by v");
        VersionGroup group = new VersionGroup(3, 2);
        group.give(SET, 5, 10);
        Check.due("7", Groups.answerTo(group, ADD, 5, 7), 17);
        Check.due("0", Groups.answerTo(group, ADD, 5, 0), 17);
        Check.due("-17", Groups.answerTo(group, ADD, 5, -17), 0);
        dueKey(group, 5, 1, 0);
        Check.due("to VALUE 0", Groups.answerTo(group, ADD, 5, -3), -3);
        dueKey(group, 5, 1, -3);
    }

    private static void addWraps() {
        Check.about(0, "that grows by v (wraps): the new one");
        int[][] sums = {{MAX, 1, MIN}, {MIN, -1, MAX}, {MIN, MIN, 0}, {MAX, MAX, -2}, {-1, MIN, MAX}};
        for (int[] sum : sums) {
            VersionGroup group = new VersionGroup(3, 2);
            group.give(SET, 5, sum[0]);
            Check.due(sum[0] + " and " + sum[1], Groups.answerTo(group, ADD, 5, sum[1]), sum[2]);
            dueKey(group, 5, 1, sum[2]);
        }
    }

    private static void addToNone() {
        Check.about(0, "the new one; else it is v");
        for (int v : new int[] {MIN, -1, 0, 1, MAX}) {
            VersionGroup group = new VersionGroup(3, 2);
            Check.due("none and " + v, Groups.answerTo(group, ADD, 5, v), v);
            dueKey(group, 5, 1, v);
            group.give(CLEAR, 5, 0);
            Check.due("none again and " + v, Groups.answerTo(group, ADD, 5, v), v);
            dueKey(group, 5, 1, v);
        }
    }

    private static void move() {
        Check.about(0, "MOVE k v: KEY v (0 to 39) has the VALUE (or none) of KEY k then, and KEY k has none");
        VersionGroup group = new VersionGroup(3, 2);
        group.give(SET, 0, 100);
        Check.due("to a key with none", Groups.answerTo(group, MOVE, 0, 39), 1);
        dueKey(group, 0, 0, 0);
        dueKey(group, 39, 1, 100);
        group.give(SET, 0, 0);
        Check.due("VALUE 0 over another", Groups.answerTo(group, MOVE, 0, 39), 1);
        dueKey(group, 0, 0, 0);
        dueKey(group, 39, 1, 0);
        Check.due("from the last key to the first", Groups.answerTo(group, MOVE, 39, 0), 1);
        dueKey(group, 0, 1, 0);
        dueKey(group, 39, 0, 0);
    }

    private static void moveOfNone() {
        Check.about(0, "1 if there was one, else 0");
        VersionGroup group = new VersionGroup(3, 2);
        group.give(SET, 39, 100);
        Check.due("none over a VALUE", Groups.answerTo(group, MOVE, 0, 39), 0);
        dueKey(group, 0, 0, 0);
        dueKey(group, 39, 0, 0);
        Check.due("none to none", Groups.answerTo(group, MOVE, 0, 39), 0);
        dueKey(group, 0, 0, 0);
        dueKey(group, 39, 0, 0);
    }

    private static void moveToItself() {
        Check.about(0, "(if k is v nothing changes)");
        for (int k : new int[] {0, 17, 39}) {
            VersionGroup group = new VersionGroup(3, 2);
            Check.due("none to itself", Groups.answerTo(group, MOVE, k, k), 0);
            dueKey(group, k, 0, 0);
            group.give(SET, k, -8);
            Check.due("a VALUE to itself", Groups.answerTo(group, MOVE, k, k), 1);
            dueKey(group, k, 1, -8);
        }
    }

    private static void calmFromSettle() {
        Check.about(0, "The group is CALM from a call of settle");
        VersionGroup group = new VersionGroup(3, 2);
        dueCalm(group, 0);
        group.settle();
        dueCalm(group, 1);
        group.settle();
        dueCalm(group, 1);
        VersionGroup busy = Groups.busy();
        dueCalm(busy, 0);
        busy.settle();
        dueCalm(busy, 1);
    }

    private static void calmUntilGiveIsTaken() {
        Check.about(0, "until the next call of give that is taken");
        for (int kind = 0; kind <= 4; kind++) {
            VersionGroup group = Groups.calm(3, 2);
            group.give(kind, -1, 0);
            group.give(kind, 40, 0);
            dueCalm(group, 1);
            group.give(kind, 0, 0);
            dueCalm(group, 0);
        }
    }

    private static void calmUntilDeliverLoseOrTwice() {
        Check.about(0, "of deliver, lose, twice");
        VersionGroup group = Groups.calm(3, 2);
        group.deliver(0);
        dueCalm(group, 0);
        group.settle();
        group.lose(0);
        dueCalm(group, 0);
        group.settle();
        group.twice(0);
        dueCalm(group, 0);
    }

    private static void calmUntilStirOrTick() {
        Check.about(0, "stir or tick");
        VersionGroup group = Groups.calm(3, 2);
        group.stir(0, 0);
        group.stir(501, 0);
        group.tick(0);
        group.tick(51);
        dueCalm(group, 1);
        group.stir(1, 0);
        dueCalm(group, 0);
        group.settle();
        group.tick(1);
        dueCalm(group, 0);
    }

    private static void calmUntilCrashDoesSomething() {
        Check.about(0, "or of crash, restart or map that does something");
        for (int n = 0; n < 3; n++) {
            VersionGroup group = Groups.calm(3, 2);
            group.crash(-1, true);
            group.crash(3, false);
            dueCalm(group, 1);
            group.crash(n, n == 1);
            dueCalm(group, 0);
        }
    }

    /** In a calm group all nodes are up, so restart can do nothing there. */
    private static void calmUntilRestartDoesSomething() {
        Check.about(0, "or of crash, restart or map that does something");
        VersionGroup group = Groups.calm(3, 2);
        for (int n = -1; n <= 3; n++) {
            group.restart(n);
            dueCalm(group, 1);
        }
        group.crash(0, true);
        group.restart(0);
        dueCalm(group, 0);
    }

    private static void calmUntilMap() {
        Check.about(0, "or of crash, restart or map that does something");
        for (int set : new int[] {7, 0, 1, 8, -1}) {
            VersionGroup group = Groups.calm(3, 2);
            group.map(set);
            dueCalm(group, 0);
        }
    }

    private static void askingKeepsCalm() {
        Check.about(0, "The group is CALM from a call of settle until");
        VersionGroup group = Groups.calm(3, 2);
        Groups.answerTo(group, SET, 0, 1);
        group.answer(0);
        group.answer(1);
        group.at(2, 0, 1);
        group.at(3, 0, 1);
        for (int what = -1; what <= 6; what++) {
            group.count(what);
        }
        Check.due("calm", group.count(5), 1);
    }

    private static void whatIsRefusedChangesNothing() {
        Check.about(0, "What is REFUSED changes nothing");
        VersionGroup stirred = Groups.full();
        stirred.stir(100, 7);
        VersionGroup[] groups = {new VersionGroup(3, 2), Groups.calm(6, 3), Groups.busy(), Groups.full(), stirred};
        for (VersionGroup group : groups) {
            int nodes = new Inside(group).nodes();
            for (int i = 0; i < 17; i++) {
                String before = new Inside(group).state();
                Check.due("wrong call " + i, wrongCall(group, nodes, i), REFUSED);
                Check.holds("wrong call " + i + " changes nothing", before.equals(new Inside(group).state()));
            }
        }
    }

    private static long wrongCall(VersionGroup group, int nodes, int i) {
        switch (i) {
            case 0: return group.give(-1, 0, 0);
            case 1: return group.give(5, 0, 0);
            case 2: return group.give(SET, -1, 0);
            case 3: return group.give(ADD, 40, 0);
            case 4: return group.give(MOVE, 0, -1);
            case 5: return group.give(MOVE, 0, 40);
            case 6: return group.stir(0, 3);
            case 7: return group.stir(501, 3);
            case 8: return group.tick(0);
            case 9: return group.tick(51);
            case 10: return group.answer(-1);
            case 11: return group.answer(group.count(0));
            case 12: return group.at(nodes, 0, 0);
            case 13: return group.at(0, 40, 0);
            case 14: return group.at(0, 0, 2);
            case 15: return group.count(-1);
            default: return group.count(6);
        }
    }

    /** 56 times 8 commands and settle, 7 commands more, and a last settle: 512 calls. */
    private static void all512Calls() {
        Check.about(0, "An object is used for at most 512 calls after it has been made");
        VersionGroup group = new VersionGroup(6, 3);
        int given = 0;
        for (int call = 1; call < 512; call++) {
            if (call % 9 == 0) {
                Check.due("call " + call + ", settle", group.settle(), 8);
            } else {
                Check.due("call " + call + ", give", group.give(ADD, given % 40, 1), given);
                given++;
            }
        }
        Check.due("call 512, settle", group.settle(), 7);
        for (int i = 0; i < given; i++) {
            Check.due("answer(" + i + ")", group.answer(i), i / 40 + 1);
        }
        Check.due("no further", group.answer(given), REFUSED);
        Check.holds("no answer is open", group.answer(given - 1) != PENDING);
    }
}
