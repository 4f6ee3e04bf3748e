/** Each sentence of a promise that names a boundary case, by the promise's number. */
final class PromiseBoundaryTest {
    private static final int REFUSED = VersionGroup.REFUSED;
    private static final int FULL = VersionGroup.FULL;
    private static final int BUSY = VersionGroup.BUSY;
    private static final long PENDING = VersionGroup.PENDING;
    private static final int MIN = Groups.MIN;
    private static final int MAX = Groups.MAX;
    private static final int SET = 0, CLEAR = 1, GET = 2, ADD = 3, MOVE = 4;

    public static void main(String[] args) {
        promise1NodesAreClamped();
        promise1CopiesAreClamped();
        promise1NotCalm();
        promise2WrongKind();
        promise2WrongKey();
        promise2WrongTarget();
        promise2OnlyMoveHasATarget();
        promise2Full();
        promise2FullUntilSettle();
        promise2WrongAndFull();
        promise3ComesOnce();
        promise3AnyK();
        promise3NodeIsDown();
        promise3WithoutMessages();
        promise4OneIsLost();
        promise4WithoutMessages();
        promise5Twice();
        promise5WithoutMessages();
        promise6Least();
        promise6Most();
        promise6Wrong();
        promise6SoManyThings();
        promise6SuchThings();
        promise6AnySeed();
        promise7LeastAndMost();
        promise7Wrong();
        promise7SoManyTicks();
        promise8NotUp();
        promise8TheLastNode();
        promise9NotDown();
        promise9AllDown();
        promise10OtherBits();
        promise10SameNodes();
        promise10FewOrNone();
        promise11AllDown();
        promise11AllInAgain();
        promise11OneEpochMore();
        promise11HowManyHadNone();
        promise11NothingIsLeft();
        promise11NeverStuck();
        promise12NoSuchCommand();
        promise12Pending();
        promise12MinusOne();
        promise12OldAnswersStay();
        promise13WrongNode();
        promise13WrongKey();
        promise13WrongWhat();
        promise13WrongComesFirst();
        promise13Busy();
        promise13ValueOrNone();
        promise13NodeWithoutCopy();
        promise14Wrong();
        promise14Commands();
        promise14WithoutAnswer();
        promise14Epoch();
        promise14NodesUp();
        promise14NodesIn();
        promise14Calm();
        Check.end();
    }

    private static void promise1NodesAreClamped() {
        Check.about(1, "N nodes (3 to 6)");
        int[] asked = {MIN, -1, 0, 1, 2, 3, 4, 5, 6, 7, 8, MAX};
        int[] due = {3, 3, 3, 3, 3, 3, 4, 5, 6, 6, 6, 6};
        for (int i = 0; i < asked.length; i++) {
            VersionGroup group = new VersionGroup(asked[i], 2);
            Check.due("up of " + asked[i], group.count(3), due[i]);
            Check.due("in of " + asked[i], group.count(4), (1 << due[i]) - 1);
            Check.holds("the last node of " + asked[i], group.crash(due[i] - 1, true));
            Check.holds("none behind it of " + asked[i], !group.crash(due[i], true));
        }
    }

    private static void promise1CopiesAreClamped() {
        Check.about(1, "R copies (2 or 3), each clamped");
        int[] asked = {MIN, -1, 0, 1, 2, 3, 4, 5, MAX};
        int[] due = {2, 2, 2, 2, 2, 3, 3, 3, 3};
        for (int nodes = 2; nodes <= 7; nodes++) {
            for (int i = 0; i < asked.length; i++) {
                VersionGroup group = new VersionGroup(nodes, asked[i]);
                Groups.answerTo(group, SET, 3, 1);
                Check.due("copies of " + nodes + ", " + asked[i], Groups.holders(group, 3),
                    Groups.keepers(group.count(3), due[i], -1));
            }
        }
    }

    private static void promise1NotCalm() {
        Check.about(1, "Not CALM");
        VersionGroup group = new VersionGroup(3, 2);
        Check.due("count(5)", group.count(5), 0);
        Check.due("at", group.at(0, 0, 0), BUSY);
        Check.due("commands", group.count(0), 0);
        Check.due("without an answer", group.count(1), 0);
    }

    private static void promise2WrongKind() {
        Check.about(2, "REFUSED if kind is not 0 to 4");
        VersionGroup group = new VersionGroup(3, 2);
        for (int kind : new int[] {MIN, -2, -1, 5, 6, MAX}) {
            Check.due("kind " + kind, group.give(kind, 0, 0), REFUSED);
        }
        for (int kind = 0; kind <= 4; kind++) {
            Check.due("kind " + kind, group.give(kind, 0, 0), kind);
        }
    }

    private static void promise2WrongKey() {
        Check.about(2, "k not 0 to 39");
        for (int kind = 0; kind <= 4; kind++) {
            VersionGroup group = new VersionGroup(3, 2);
            for (int k : new int[] {MIN, -40, -1, 40, 41, 64, MAX}) {
                Check.due("kind " + kind + " of key " + k, group.give(kind, k, 0), REFUSED);
            }
            Check.due("kind " + kind + " of key 0", group.give(kind, 0, 0), 0);
            Check.due("kind " + kind + " of key 39", group.give(kind, 39, 0), 1);
        }
    }

    private static void promise2WrongTarget() {
        Check.about(2, "or for MOVE v");
        VersionGroup group = new VersionGroup(3, 2);
        for (int v : new int[] {MIN, -40, -1, 40, 41, 64, MAX}) {
            Check.due("MOVE to " + v, group.give(MOVE, 0, v), REFUSED);
        }
        Check.due("MOVE to 0", group.give(MOVE, 39, 0), 0);
        Check.due("MOVE to 39", group.give(MOVE, 0, 39), 1);
    }

    private static void promise2OnlyMoveHasATarget() {
        Check.about(2, "or for MOVE v");
        for (int v : new int[] {MIN, -1, 40, MAX}) {
            VersionGroup group = new VersionGroup(3, 2);
            for (int kind = SET; kind <= ADD; kind++) {
                Check.due("kind " + kind + " with " + v, group.give(kind, 0, v), kind);
            }
            group.settle();
            Check.due("SET, CLEAR, GET and ADD", group.answer(ADD), v);
        }
    }

    private static void promise2Full() {
        Check.about(2, "FULL if 8 have no ANSWER");
        for (int kind = 0; kind <= 4; kind++) {
            VersionGroup group = new VersionGroup(3, 2);
            Groups.giveMany(group, 7);
            Check.due("the eighth", group.give(kind, 0, 0), 7);
            String before = new Inside(group).state();
            Check.due("the ninth", group.give(kind, 0, 0), FULL);
            Check.due("the ninth again", group.give(kind, 39, 39), FULL);
            Check.holds("nothing changes", before.equals(new Inside(group).state()));
        }
    }

    private static void promise2FullUntilSettle() {
        Check.about(2, "FULL if 8 have no ANSWER");
        VersionGroup group = Groups.full();
        Groups.run(group, 20);
        group.map(0);
        group.crash(0, false);
        Check.due("before settle", group.give(GET, 0, 0), FULL);
        group.settle();
        for (int i = 0; i < 8; i++) {
            Check.due("after settle", group.give(GET, 0, 0), 8 + i);
        }
        Check.due("then again", group.give(GET, 0, 0), FULL);
        group.settle();
        Check.due("what FULL told was not done", group.answer(15), 8);
    }

    private static void promise2WrongAndFull() {
        Check.about(2, "REFUSED if kind is not 0 to 4, k not 0 to 39, or for MOVE v; FULL");
        VersionGroup group = Groups.full();
        Check.due("kind -1", group.give(-1, 0, 0), REFUSED);
        Check.due("kind 5", group.give(5, 0, 0), REFUSED);
        Check.due("key 40", group.give(SET, 40, 0), REFUSED);
        Check.due("MOVE to 40", group.give(MOVE, 0, 40), REFUSED);
        Check.due("nothing wrong", group.give(MOVE, 0, 39), FULL);
    }

    /** One message is under way: a command to the node that leads. */
    private static VersionGroup withOneMessage() {
        VersionGroup group = Groups.calm(3, 2);
        group.give(ADD, 0, 1);
        Check.due("messages under way", new Inside(group).underWay(), 1);
        return group;
    }

    private static void promise3ComesOnce() {
        Check.about(3, "comes to where it goes");
        VersionGroup group = Groups.withOneQuestion();
        group.deliver(0);
        Check.due("one answer under way", new Inside(group).underWay(), 1);
        group.deliver(0);
        Check.due("nothing under way", new Inside(group).underWay(), 0);
        Check.holds("the answer has come", new Inside(group).arrived(0));
    }

    private static void promise3AnyK() {
        Check.about(3, "which one is told by k in some way");
        for (int k : new int[] {MIN, -65, -1, 0, 1, 63, 64, MAX}) {
            VersionGroup group = withOneMessage();
            group.deliver(k);
            Check.due("under way", new Inside(group).underWay(), 0);
            Check.due("it has come", new Inside(group).end(2, "known"), 1);
            VersionGroup many = Groups.busy();
            many.tick(50);
            int before = new Inside(many).underWay();
            many.lose(k);
            Check.due("one of many", new Inside(many).underWay(), before - 1);
        }
    }

    private static void promise3NodeIsDown() {
        Check.about(3, "(it is lost if that NODE is DOWN)");
        for (int times = 1; times <= 2; times++) {
            VersionGroup group = withOneMessage();
            group.crash(2, true);
            if (times == 1) {
                group.deliver(0);
            } else {
                group.twice(0);
            }
            group.restart(2);
            Check.due("under way", new Inside(group).underWay(), 0);
            Check.due("it has not come", new Inside(group).end(2, "known"), 0);
        }
    }

    /** Calls deliver (0), lose (1) or twice (2). */
    private static void move(VersionGroup group, int way, int k) {
        if (way == 0) {
            group.deliver(k);
        } else if (way == 1) {
            group.lose(k);
        } else {
            group.twice(k);
        }
    }

    private static void dueNothingComes(int way) {
        for (int k : new int[] {MIN, -1, 0, 1, MAX}) {
            VersionGroup group = Groups.calm(3, 2);
            Groups.answerTo(group, SET, 0, 1);
            Check.due("under way", new Inside(group).underWay(), 0);
            move(group, way, k);
            Check.due("calm", group.count(5), 0);
            Check.due("at", group.at(2, 0, 1), BUSY);
            String before = new Inside(group).state();
            move(group, way, k);
            Check.holds("nothing else changes", before.equals(new Inside(group).state()));
            Check.due("settle", group.settle(), 0);
            Check.due("the value", group.at(2, 0, 1), 1);
        }
    }

    private static void promise3WithoutMessages() {
        Check.about(3, "(Without MESSAGES nothing comes, but the group is not CALM any more");
        dueNothingComes(0);
    }

    private static void promise4OneIsLost() {
        Check.about(4, "One of the MESSAGES under way is lost");
        VersionGroup group = withOneMessage();
        group.lose(5);
        Check.due("under way", new Inside(group).underWay(), 0);
        Check.due("it has not come", new Inside(group).end(2, "known"), 0);
        Check.due("settle", group.settle(), 1);
        Check.due("done all the same", group.answer(0), 1);
    }

    private static void promise4WithoutMessages() {
        Check.about(4, "so for lose");
        dueNothingComes(1);
    }

    private static void promise5Twice() {
        Check.about(5, "One of the MESSAGES under way comes twice");
        VersionGroup group = withOneMessage();
        group.twice(-1);
        Check.due("under way", new Inside(group).underWay(), 0);
        Check.due("taken once", new Inside(group).end(2, "known"), 1);
        group.settle();
        Check.due("done once", group.answer(0), 1);
        VersionGroup question = Groups.withOneQuestion();
        question.twice(1);
        Check.due("two answers under way", new Inside(question).underWay(), 2);
    }

    private static void promise5WithoutMessages() {
        Check.about(5, "so for lose and twice");
        dueNothingComes(2);
    }

    private static void promise6Least() {
        Check.about(6, "n (1 to 500) such things");
        VersionGroup group = Groups.calm(3, 2);
        Check.due("stir(1)", group.stir(1, 0), 1);
        Check.due("calm", group.count(5), 0);
        Check.due("stir(2)", group.stir(2, 0), 2);
    }

    private static void promise6Most() {
        Check.about(6, "n (1 to 500) such things");
        VersionGroup group = withOneMessage();
        Check.due("stir(500)", group.stir(500, 0), 500);
        Check.due("stir(499)", group.stir(499, 0), 499);
        Check.due("settle", group.settle(), 1);
    }

    private static void promise6Wrong() {
        Check.about(6, "REFUSED for another n");
        VersionGroup group = Groups.calm(3, 2);
        for (int n : new int[] {MIN, -500, -1, 0, 501, 502, 1000, MAX}) {
            Check.due("stir(" + n + ")", group.stir(n, 0), REFUSED);
        }
        Check.due("still calm", group.count(5), 1);
    }

    /** With all nodes down a message has no reply, so each thing leaves one less. */
    private static void promise6SoManyThings() {
        Check.about(6, "n (1 to 500) such things one behind the other");
        for (int seed = 0; seed < 40; seed++) {
            VersionGroup group = Groups.calm(6, 3);
            for (int n = 0; n < 6; n++) {
                group.crash(n, true);
            }
            group.map(0);
            group.map(0);
            Inside inside = new Inside(group);
            Check.due("under way", inside.underWay(), 12);
            group.stir(1, seed);
            Check.due("one less", inside.underWay(), 11);
            group.stir(10, seed);
            Check.due("ten less", inside.underWay(), 1);
            group.stir(500, seed);
            Check.due("none left", inside.underWay(), 0);
        }
    }

    /** What one thing leaves under way of a question: no answer if it was lost, one, or two. */
    private static void promise6SuchThings() {
        Check.about(6, "n (1 to 500) such things");
        int[] seen = new int[3];
        for (int seed = 0; seed < 100; seed++) {
            VersionGroup group = Groups.withOneQuestion();
            group.stir(1, seed * 1000003);
            int left = new Inside(group).underWay();
            Check.holds("left are " + left, left <= 2);
            seen[Math.min(2, left)]++;
        }
        Check.holds("lost " + seen[0] + " times", seen[0] > 0);
        Check.holds("come " + seen[1] + " times", seen[1] > 0);
        Check.holds("come twice " + seen[2] + " times", seen[2] > 0);
    }

    private static void promise6AnySeed() {
        Check.about(6, "by what comes of seed in some way");
        for (int seed : new int[] {MIN, -1, 0, 1, MAX}) {
            VersionGroup group = Groups.busy();
            VersionGroup alike = Groups.busy();
            group.tick(50);
            alike.tick(50);
            Check.due("stir", group.stir(77, seed), 77);
            Check.due("stir", alike.stir(77, seed), 77);
            Check.holds("the same comes of it", new Inside(group).state().equals(new Inside(alike).state()));
            Check.due("settle", group.settle(), 2);
            Check.due("the value", group.at(2, 4, 1), 31);
        }
    }

    private static void promise7LeastAndMost() {
        Check.about(7, "n (1 to 50) TICKS: n");
        VersionGroup group = Groups.calm(3, 2);
        Check.due("tick(1)", group.tick(1), 1);
        Check.due("calm", group.count(5), 0);
        Check.due("tick(2)", group.tick(2), 2);
        Check.due("tick(49)", group.tick(49), 49);
        Check.due("tick(50)", group.tick(50), 50);
    }

    private static void promise7Wrong() {
        Check.about(7, "REFUSED for another n");
        VersionGroup group = Groups.calm(3, 2);
        for (int n : new int[] {MIN, -50, -1, 0, 51, 52, 500, MAX}) {
            Check.due("tick(" + n + ")", group.tick(n), REFUSED);
        }
        Check.due("still calm", group.count(5), 1);
    }

    private static void promise7SoManyTicks() {
        Check.about(7, "n (1 to 50) TICKS: n");
        for (int n : new int[] {1, 2, 3}) {
            VersionGroup group = withOneMessage();
            VersionGroup alike = withOneMessage();
            group.tick(n);
            for (int i = 0; i < n; i++) {
                alike.tick(1);
            }
            Check.holds("as by one at a time", new Inside(group).state().equals(new Inside(alike).state()));
            // Without its answer the command is sent again at each tick.
            Check.due("messages after " + n, new Inside(group).underWay(), 1 + n);
        }
    }

    private static void promise8NotUp() {
        Check.about(8, "False if it is not UP");
        for (int kept = 0; kept < 2; kept++) {
            VersionGroup group = Groups.busy();
            String before = new Inside(group).state();
            for (int n : new int[] {MIN, -1, 1, 4, 5, 31, 32, MAX}) {
                Check.holds("no crash(" + n + ")", !group.crash(n, kept == 1));
            }
            Check.holds("nothing changes", before.equals(new Inside(group).state()));
            for (int n : new int[] {0, 2, 3}) {
                Check.holds("crash(" + n + ")", group.crash(n, kept == 1));
                Check.holds("no crash(" + n + ") again", !group.crash(n, kept == 1));
            }
            group.restart(3);
            Check.holds("crash(3) after restart", group.crash(3, kept == 1));
        }
    }

    private static void promise8TheLastNode() {
        Check.about(8, "NODE n CRASHES");
        for (int kept = 0; kept < 2; kept++) {
            VersionGroup group = Groups.calm(6, 3);
            Groups.answerTo(group, SET, 1, 11);
            for (int n = 0; n < 6; n++) {
                Check.holds("crash(" + n + ")", group.crash(n, kept == 1));
                Check.due("up", group.count(3), 5 - n);
            }
            group.tick(50);
            group.stir(500, 5);
            group.settle();
            Check.due("what was done stands", group.at(5, 1, 1), 11);
        }
    }

    private static void promise9NotDown() {
        Check.about(9, "false if it is not DOWN");
        VersionGroup group = Groups.busy();
        String before = new Inside(group).state();
        for (int n : new int[] {MIN, -1, 0, 2, 3, 4, 5, 31, 32, MAX}) {
            Check.holds("no restart(" + n + ")", !group.restart(n));
        }
        Check.holds("nothing changes", before.equals(new Inside(group).state()));
        Check.holds("restart(1)", group.restart(1));
        Check.holds("no restart(1) again", !group.restart(1));
    }

    private static void promise9AllDown() {
        Check.about(9, "NODE n RESTARTS: true");
        VersionGroup group = Groups.calm(5, 2);
        for (int n = 0; n < 5; n++) {
            group.crash(n, false);
        }
        for (int n = 0; n < 5; n++) {
            Check.holds("restart(" + n + ")", group.restart(n));
            Check.due("up", group.count(3), n + 1);
        }
    }

    private static void promise10OtherBits() {
        Check.about(10, "the NODES of set (bits; others do not matter) are IN");
        for (int nodes = 3; nodes <= 6; nodes++) {
            VersionGroup group = new VersionGroup(nodes, 2);
            int all = (1 << nodes) - 1;
            for (int set : new int[] {-1, MIN, MAX, ~1, 1 << nodes, 1 << nodes - 1, all, all + 1, all << 1}) {
                group.map(set);
                Check.due("in after map(" + set + ")", group.count(4), set & all);
            }
        }
    }

    private static void promise10SameNodes() {
        Check.about(10, "(Always a new one, also of the same NODES");
        VersionGroup group = Groups.calm(3, 2);
        for (int i = 0; i < 5; i++) {
            Check.due("map(7)", group.map(7), 3 + i);
            Check.due("calm", group.count(5), 0);
        }
        Check.due("the same nodes by other bits", group.map(-1), 8);
        Check.due("epoch", group.count(2), 8);
    }

    private static void promise10FewOrNone() {
        Check.about(10, "of few or none.)");
        VersionGroup group = Groups.calm(4, 3);
        int[] sets = {3, 1, 0, 0, 16, 8};
        for (int i = 0; i < sets.length; i++) {
            Check.due("map(" + sets[i] + ")", group.map(sets[i]), 3 + i);
            Check.due("in", group.count(4), sets[i] & 15);
            Check.due("calm", group.count(5), 0);
        }
        Check.due("give", group.give(SET, 0, 4), 0);
        Groups.run(group, 10);
        Check.due("settle", group.settle(), 1);
        Check.due("the value", group.at(3, 0, 1), 4);
    }

    private static void promise11AllDown() {
        Check.about(11, "All NODES that are DOWN RESTART");
        for (int down = 0; down < 64; down++) {
            VersionGroup group = new VersionGroup(6, 3);
            for (int n = 0; n < 6; n++) {
                if ((down >>> n & 1) != 0) {
                    group.crash(n, n % 2 == 0);
                }
            }
            group.settle();
            Check.due("up", group.count(3), 6);
        }
    }

    private static void promise11AllInAgain() {
        Check.about(11, "there is a new MAP with all NODES");
        for (int set = 0; set < 8; set++) {
            VersionGroup group = new VersionGroup(3, 2);
            group.map(set);
            group.settle();
            Check.due("in after map(" + set + ") and settle", group.count(4), 7);
        }
    }

    private static void promise11OneEpochMore() {
        Check.about(11, "(one more EPOCH each time)");
        VersionGroup group = new VersionGroup(4, 2);
        for (int i = 0; i < 250; i++) {
            group.settle();
            Check.due("epoch", group.count(2), 2 + i);
        }
        Check.due("map", group.map(15), 252);
        group.settle();
        Check.due("epoch", group.count(2), 253);
    }

    private static void promise11HowManyHadNone() {
        Check.about(11, "how many had none before");
        VersionGroup group = new VersionGroup(5, 2);
        for (int open = 8; open >= 0; open--) {
            Groups.giveMany(group, open);
            group.give(-1, 0, 0);
            Check.due("settle", group.settle(), open);
            Check.due("settle again", group.settle(), 0);
        }
    }

    private static void promise11NothingIsLeft() {
        Check.about(11, "until all COMMANDS have their ANSWERS and nothing is left to be done");
        VersionGroup group = Groups.full();
        group.tick(50);
        Check.holds("more messages than there is room for", new Inside(group).underWay() == 64);
        group.settle();
        Check.due("under way", new Inside(group).underWay(), 0);
        Check.due("without an answer", group.count(1), 0);
        Check.due("done by those with copies", new Inside(group).done(1, "known"), 8);
        group.tick(1);
        Check.due("under way after one tick more", new Inside(group).underWay(), 0);
    }

    private static void promise11NeverStuck() {
        Check.about(11, "STUCK would be told if 1000 TICKS were not enough; they always are");
        for (int nodes = 3; nodes <= 6; nodes++) {
            for (int seed = 0; seed < 30; seed++) {
                VersionGroup group = new VersionGroup(nodes, 2 + seed % 2);
                for (int i = 0; i < 8; i++) {
                    Groups.giveMany(group, 8);
                    group.map(seed * 11 + i);
                    group.tick(i == 7 ? 50 : 3);
                    group.stir(500 - i * 60, seed);
                    group.crash((seed + i) % nodes, i % 2 == 0);
                    Check.due("settle", group.settle(), 8);
                }
            }
        }
    }

    private static void promise12NoSuchCommand() {
        Check.about(12, "REFUSED if there is none");
        VersionGroup group = new VersionGroup(3, 2);
        for (int given = 0; given <= 8; given++) {
            for (int command : new int[] {MIN, -8, -1, given, given + 1, given + 8, 512, MAX}) {
                Check.due("answer(" + command + ") of " + given, group.answer(command), REFUSED);
            }
            group.give(GET, 0, 0);
        }
        group.settle();
        Check.due("answer(7)", group.answer(7), 0);
        Check.due("answer(8)", group.answer(8), REFUSED);
    }

    private static void promise12Pending() {
        Check.about(12, "PENDING before");
        VersionGroup group = new VersionGroup(3, 2);
        for (int i = 0; i < 8; i++) {
            group.give(SET, i, i);
            Check.due("answer(" + i + ")", group.answer(i), PENDING);
        }
        Check.due("the first one", group.answer(0), PENDING);
        Groups.run(group, 20);
        Check.due("the first one", group.answer(0), PENDING);
        group.settle();
        group.give(SET, 0, 0);
        Check.due("the last with an answer", group.answer(7), 0);
        Check.due("the first without", group.answer(8), PENDING);
    }

    private static void promise12MinusOne() {
        Check.about(12, "(An ANSWER may be -1, too.)");
        int[] values = {-1, -2, -3, -4, MIN, MAX};
        for (int value : values) {
            VersionGroup group = new VersionGroup(3, 2);
            group.give(ADD, 0, value);
            group.give(GET, 0, 0);
            Check.due("before", group.answer(0), PENDING);
            Check.due("settle", group.settle(), 2);
            Check.due("ADD", group.answer(0), value);
            Check.due("GET", group.answer(1), value);
            Check.due("without an answer", group.count(1), 0);
        }
    }

    private static void promise12OldAnswersStay() {
        Check.about(12, "The ANSWER of a COMMAND");
        VersionGroup group = new VersionGroup(6, 3);
        for (int i = 0; i < 200; i++) {
            group.give(ADD, 0, 1);
            if (i % 8 == 7) {
                group.settle();
            }
        }
        for (int i = 0; i < 200; i++) {
            Check.due("answer(" + i + ")", group.answer(i), i + 1);
        }
    }

    private static void promise13WrongNode() {
        Check.about(13, "REFUSED for another n");
        for (int nodes = 3; nodes <= 6; nodes++) {
            VersionGroup group = Groups.calm(nodes, 2);
            for (int n : new int[] {MIN, -1, nodes, 6, 31, 32, MAX}) {
                Check.due("at(" + n + ", 0, 0) of " + nodes, group.at(n, 0, 0), REFUSED);
            }
            Check.due("at(0, 0, 0)", group.at(0, 0, 0), 0);
            Check.due("at(N - 1, 0, 0)", group.at(nodes - 1, 0, 0), 0);
        }
    }

    private static void promise13WrongKey() {
        Check.about(13, "REFUSED for another n, k");
        VersionGroup group = Groups.calm(3, 2);
        for (int k : new int[] {MIN, -1, 40, 41, 64, MAX}) {
            Check.due("at(2, " + k + ", 0)", group.at(2, k, 0), REFUSED);
            Check.due("at(2, " + k + ", 1)", group.at(2, k, 1), REFUSED);
        }
        Check.due("at(2, 0, 0)", group.at(2, 0, 0), 0);
        Check.due("at(2, 39, 0)", group.at(2, 39, 0), 0);
    }

    private static void promise13WrongWhat() {
        Check.about(13, "REFUSED for another n, k or what");
        VersionGroup group = Groups.calm(3, 2);
        for (int what : new int[] {MIN, -1, 2, 3, MAX}) {
            Check.due("at(2, 0, " + what + ")", group.at(2, 0, what), REFUSED);
        }
        Check.due("at(2, 0, 1)", group.at(2, 0, 1), 0);
    }

    private static void promise13WrongComesFirst() {
        Check.about(13, "BUSY if it is not; REFUSED for another n, k or what (first)");
        VersionGroup group = new VersionGroup(3, 2);
        Check.due("node -1", group.at(-1, 0, 0), REFUSED);
        Check.due("node 3", group.at(3, 0, 0), REFUSED);
        Check.due("key -1", group.at(0, -1, 0), REFUSED);
        Check.due("key 40", group.at(0, 40, 0), REFUSED);
        Check.due("what -1", group.at(0, 0, -1), REFUSED);
        Check.due("what 2", group.at(0, 0, 2), REFUSED);
        Check.due("nothing wrong", group.at(0, 0, 0), BUSY);
    }

    private static void promise13Busy() {
        Check.about(13, "BUSY if it is not");
        VersionGroup group = Groups.busy();
        for (int n = 0; n < 4; n++) {
            for (int what = 0; what < 2; what++) {
                Check.due("key 0", group.at(n, 0, what), BUSY);
                Check.due("key 39", group.at(n, 39, what), BUSY);
            }
        }
        group.settle();
        Check.due("calm", group.at(2, 4, 1), 31);
        group.tick(1);
        Check.due("not calm any more", group.at(2, 4, 1), BUSY);
    }

    private static void promise13ValueOrNone() {
        Check.about(13, "0: 1 if it has a VALUE, else 0; 1: the VALUE, 0 if none");
        for (int k : new int[] {0, 31, 32, 39}) {
            VersionGroup group = Groups.calm(3, 2);
            for (int value : new int[] {0, -1, -3, MIN, MAX}) {
                Groups.answerTo(group, SET, k, value);
                Check.due("has " + value, group.at(2, k, 0), 1);
                Check.due("the value " + value, group.at(2, k, 1), value);
            }
            Groups.answerTo(group, CLEAR, k, 0);
            Check.due("cleared", group.at(2, k, 0), 0);
            Check.due("cleared", group.at(2, k, 1), 0);
        }
    }

    private static void promise13NodeWithoutCopy() {
        Check.about(13, "(A NODE without a copy has none.)");
        for (int nodes = 3; nodes <= 6; nodes++) {
            for (int copies = 2; copies <= 3; copies++) {
                VersionGroup group = new VersionGroup(nodes, copies);
                group.give(SET, 39, 9);
                // Those that are to have no copy in the end have one for a while.
                group.map(~Groups.keepers(nodes, 1, -1));
                Groups.run(group, 15);
                group.settle();
                int keepers = Groups.keepers(nodes, copies, -1);
                for (int n = 0; n < nodes; n++) {
                    int has = keepers >>> n & 1;
                    Check.due("has, node " + n, group.at(n, 39, 0), has);
                    Check.due("value, node " + n, group.at(n, 39, 1), has * 9);
                }
            }
        }
    }

    private static void promise14Wrong() {
        Check.about(14, "REFUSED for others");
        for (VersionGroup group : new VersionGroup[] {Groups.calm(3, 2), Groups.busy()}) {
            for (int what : new int[] {MIN, -2, -1, 6, 7, MAX}) {
                Check.due("count(" + what + ")", group.count(what), REFUSED);
            }
        }
    }

    private static void promise14Commands() {
        Check.about(14, "What 0: COMMANDS so far");
        VersionGroup group = new VersionGroup(3, 2);
        Check.due("at first", group.count(0), 0);
        group.give(5, 0, 0);
        Check.due("after a refused one", group.count(0), 0);
        Groups.giveMany(group, 9);
        Check.due("after 8 and one for which it was FULL", group.count(0), 8);
        group.settle();
        Check.due("after settle", group.count(0), 8);
    }

    private static void promise14WithoutAnswer() {
        Check.about(14, "1: those without an ANSWER");
        VersionGroup group = new VersionGroup(3, 2);
        for (int i = 0; i < 8; i++) {
            Check.due("after " + i, group.count(1), i);
            group.give(GET, 0, 0);
        }
        group.give(GET, 0, 0);
        Check.due("the most", group.count(1), 8);
        group.settle();
        Check.due("after settle", group.count(1), 0);
    }

    private static void promise14Epoch() {
        Check.about(14, "2: the EPOCH");
        VersionGroup group = new VersionGroup(3, 2);
        Check.due("at first", group.count(2), 1);
        group.map(0);
        Check.due("after map(0)", group.count(2), 2);
        group.settle();
        Check.due("after settle", group.count(2), 3);
    }

    private static void promise14NodesUp() {
        Check.about(14, "3: NODES UP");
        VersionGroup group = new VersionGroup(3, 2);
        for (int n = 0; n < 3; n++) {
            Check.due("up", group.count(3), 3 - n);
            group.crash(n, false);
            group.crash(n, false);
        }
        Check.due("none up", group.count(3), 0);
        group.restart(1);
        group.restart(1);
        Check.due("one up", group.count(3), 1);
        group.map(5);
        Check.due("a map changes none", group.count(3), 1);
    }

    private static void promise14NodesIn() {
        Check.about(14, "4: the set of NODES IN");
        VersionGroup group = new VersionGroup(6, 2);
        Check.due("at first", group.count(4), 63);
        group.crash(5, true);
        Check.due("a crash changes none", group.count(4), 63);
        group.map(MIN);
        Check.due("none in", group.count(4), 0);
        group.map(32);
        Check.due("the last in", group.count(4), 32);
        group.settle();
        Check.due("after settle", group.count(4), 63);
    }

    private static void promise14Calm() {
        Check.about(14, "5: 1 if the group is CALM, else 0");
        VersionGroup group = new VersionGroup(6, 2);
        Check.due("at first", group.count(5), 0);
        group.settle();
        Check.due("after settle", group.count(5), 1);
        group.lose(0);
        Check.due("after lose", group.count(5), 0);
    }
}
