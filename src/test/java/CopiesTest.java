import java.util.ArrayList;
import java.util.List;
import java.util.Random;

/** The terms of the document that answers alone do not show: logs, flushes, messages, copies. */
final class CopiesTest {
    private static final String KNOWN = "known";
    private static final String FLUSHED = "flushed";

    public static void main(String[] args) {
        int runs = args.length > 0 ? Integer.parseInt(args[0]) : 300;
        for (int run = 0; run < runs && !Check.failed(); run++) {
            copiesFollowTheLog(run);
            allIsDoneWithoutANewMap(run);
        }
        worksWithoutSettle();
        movesWithTheMap();
        nothingPassesButByMessages();
        nothingIsDoneWithFewNodes();
        nothingIsDoneWhileACopyIsDown();
        crashLosesWhatIsNotFlushed();
        crashKeepsWhatIsFlushed();
        messagesToDownNodesAreLost();
        downNodesDoNotWork();
        twiceComesTwice();
        anOlderMapIsNotTaken();
        messagesOfAnEarlierEpochAreNotTaken();
        aCrashedLeaderAsksAnew();
        theEpochIsFlushed();
        theSameMapAgainChangesNothing();
        aNewLeaderWaitsForJustEnoughNodes();
        aNodeThatWasDownCatchesUp();
        aLateReportHoldsNobodyUp();
        Check.end();
    }

    /** After each call by chance every copy is right, and what was answered stands on R nodes. */
    private static void copiesFollowTheLog(int run) {
        Random random = new Random(run);
        Pair pair = new Pair("copies, run " + run, 3 + random.nextInt(4), 2 + random.nextInt(2));
        Inside inside = new Inside(pair.group);
        for (int i = 0; i < 200 && !Check.failed(); i++) {
            pair.callByChance(random, run % 4 * 30);
            dueCopies(pair, inside);
            dueStanding(pair, inside);
        }
        pair.settle();
        Check.due("under way after settle", inside.underWay(), 0);
    }

    private static void dueCopies(Pair pair, Inside inside) {
        for (int n = 0; n < pair.model.nodes; n++) {
            for (String memory : new String[] {KNOWN, FLUSHED}) {
                int done = inside.done(n, memory);
                int end = inside.end(n, memory);
                boolean right = 0 <= done && done <= end && end <= pair.model.count(0) && end - done <= 8;
                if (right) {
                    List<Long> answers = new ArrayList<>();
                    Integer[] table = Model.after(pair.model.commands(), done, answers);
                    right = sameTable(inside.get("nodes", n, memory, "copy"), table, answers, end);
                }
                if (!right) {
                    Check.holds("what node " + n + " has " + memory + ", " + pair.story(), false);
                }
            }
        }
    }

    private static boolean sameTable(Object copy, Integer[] table, List<Long> answers, int end) {
        long held = ((Number) Inside.field(copy, "held")).longValue();
        int[] values = (int[]) Inside.field(copy, "values");
        for (int k = 0; k < 40; k++) {
            if ((held >>> k & 1) != (table[k] == null ? 0 : 1) || values[k] != (table[k] == null ? 0 : table[k])) {
                return false;
            }
        }
        int[] recent = (int[]) Inside.field(copy, "answers");
        for (int i = Math.max(0, answers.size() - 8); i < answers.size(); i++) {
            if (recent[i % 8] != answers.get(i)) {
                return false;
            }
        }
        Object[] log = (Object[]) Inside.field(copy, "log");
        for (int i = Math.max(0, end - 8); i < end; i++) {
            if (log[i % 8] == null || ((Number) Inside.field(log[i % 8], "number")).intValue() != i) {
                return false;
            }
        }
        return true;
    }

    private static void dueStanding(Pair pair, Inside inside) {
        List<Long> answers = new ArrayList<>();
        Model.after(pair.model.commands(), pair.model.count(0), answers);
        for (int i = 0; i < answers.size(); i++) {
            if (!inside.arrived(i)) {
                continue;
            }
            int holders = 0;
            for (int n = 0; n < pair.model.nodes; n++) {
                holders += inside.end(n, FLUSHED) > i ? 1 : 0;
            }
            if (holders < pair.model.copies || inside.number("desk", "answers", i) != answers.get(i)) {
                Check.holds("command " + i + " stands on " + holders + " nodes, " + pair.story(), false);
            }
        }
    }

    /** Whatever happened: once all nodes are up and all messages come, the last map is enough. */
    private static void allIsDoneWithoutANewMap(int run) {
        Random random = new Random(-1 - run);
        Pair pair = new Pair("without a new map, run " + run, 3 + random.nextInt(4), 2 + random.nextInt(2));
        for (int i = 0; i < 150; i++) {
            pair.callByChance(random, run % 4 * 30);
        }
        int keepers = Groups.keepers(pair.model.nodes, pair.model.copies, pair.model.count(4));
        if (keepers == 0) {
            return;
        }
        for (int n = 0; n < pair.model.nodes; n++) {
            pair.restart(n);
        }
        Groups.run(pair.group, 20);
        Inside inside = new Inside(pair.group);
        for (int i = 0; i < pair.model.count(0); i++) {
            Check.holds("command " + i + " is done, " + pair.story(), inside.arrived(i));
        }
        dueDone(inside, keepers, pair.model.count(0));
        Check.due("under way at the end", inside.underWay(), 0);
    }

    private static void worksWithoutSettle() {
        VersionGroup group = new VersionGroup(6, 3);
        Inside inside = new Inside(group);
        for (int i = 0; i < 8; i++) {
            group.give(3, 0, 1);
        }
        Groups.run(group, 20);
        for (int i = 0; i < 8; i++) {
            Check.holds("the answer has come", inside.arrived(i));
            Check.due("but is told at settle", group.answer(i), VersionGroup.PENDING);
        }
        Check.due("silence at the end", inside.underWay(), 0);
        dueDone(inside, 0b110100, 8);
    }

    private static void dueDone(Inside inside, int keepers, int want) {
        for (int n = 0; n < inside.nodes(); n++) {
            int due = (keepers >>> n & 1) * want;
            Check.due("done by node " + n, inside.done(n, FLUSHED), due);
            Check.due("log of node " + n, inside.end(n, FLUSHED), due);
        }
    }

    private static void movesWithTheMap() {
        VersionGroup group = new VersionGroup(6, 3);
        Inside inside = new Inside(group);
        for (int i = 0; i < 12; i++) {
            group.give(3, i, 1);
            if (i == 7) {
                group.settle();
            }
        }
        group.map(0b001011);
        Groups.run(group, 20);
        dueDone(inside, 0b001011, 12);
        group.map(0b101111);
        Groups.run(group, 20);
        dueDone(inside, 0b100110, 12);
        group.crash(5, false);
        group.map(0b011111);
        Groups.run(group, 20);
        Check.due("node 4 has a copy now", inside.done(4, FLUSHED), 12);
        Check.due("node 5 knows of nothing", inside.number("nodes", 5, KNOWN, "epoch"), 4);
        group.restart(5);
        Groups.run(group, 20);
        dueDone(inside, 0b010110, 12);
    }

    private static void nothingPassesButByMessages() {
        VersionGroup group = new VersionGroup(4, 2);
        Inside inside = new Inside(group);
        group.give(0, 0, 1);
        group.map(7);
        for (int i = 0; i < 50; i++) {
            for (int j = 0; j < 100 && inside.underWay() > 0; j++) {
                group.lose(j);
            }
            group.tick(1);
        }
        dueDone(inside, 0, 0);
        for (int n = 0; n < 4; n++) {
            Check.due("the epoch that node " + n + " knows", inside.number("nodes", n, KNOWN, "epoch"), 1);
        }
    }

    private static void nothingIsDoneWithFewNodes() {
        VersionGroup group = new VersionGroup(5, 3);
        group.map(0b00011);
        Groups.run(group, 20);
        group.give(0, 0, 1);
        Groups.run(group, 20);
        dueDone(new Inside(group), 0, 0);
    }

    private static void nothingIsDoneWhileACopyIsDown() {
        VersionGroup group = new VersionGroup(3, 3);
        group.crash(0, true);
        group.give(0, 0, 1);
        Groups.run(group, 20);
        Inside inside = new Inside(group);
        for (int n = 0; n < 3; n++) {
            Check.due("done by node " + n, inside.done(n, KNOWN), 0);
        }
        group.restart(0);
        Groups.run(group, 20);
        dueDone(inside, 7, 1);
    }

    /** A leader that has taken a command and had no tick since. */
    private static VersionGroup withCommandTaken() {
        VersionGroup group = new VersionGroup(3, 2);
        Groups.run(group, 10);
        group.give(0, 0, 1);
        group.deliver(0);
        Inside inside = new Inside(group);
        Check.due("the leader knows", inside.end(2, KNOWN), 1);
        Check.due("not flushed yet", inside.end(2, FLUSHED), 0);
        return group;
    }

    private static void crashLosesWhatIsNotFlushed() {
        VersionGroup group = withCommandTaken();
        group.crash(2, false);
        group.restart(2);
        Check.due("lost", new Inside(group).end(2, KNOWN), 0);
    }

    private static void crashKeepsWhatIsFlushed() {
        VersionGroup kept = withCommandTaken();
        kept.crash(2, true);
        kept.restart(2);
        Check.due("kept", new Inside(kept).end(2, KNOWN), 1);
        kept.crash(2, false);
        kept.restart(2);
        Check.due("kept for good", new Inside(kept).end(2, KNOWN), 1);
        VersionGroup ticked = withCommandTaken();
        ticked.tick(1);
        ticked.crash(2, false);
        ticked.restart(2);
        Check.due("flushed", new Inside(ticked).end(2, KNOWN), 1);
    }

    private static void messagesToDownNodesAreLost() {
        VersionGroup group = new VersionGroup(3, 2);
        Groups.run(group, 10);
        group.crash(2, true);
        group.give(0, 0, 1);
        Inside inside = new Inside(group);
        Check.due("under way", inside.underWay(), 1);
        group.deliver(0);
        Check.due("under way no more", inside.underWay(), 0);
        group.restart(2);
        Check.due("not heard", inside.end(2, KNOWN), 0);
    }

    private static void downNodesDoNotWork() {
        VersionGroup group = new VersionGroup(3, 2);
        for (int n = 0; n < 3; n++) {
            group.crash(n, true);
        }
        group.tick(3);
        Check.due("under way from down nodes", new Inside(group).underWay(), 0);
    }

    private static void twiceComesTwice() {
        VersionGroup group = new VersionGroup(3, 2);
        Inside inside = new Inside(group);
        group.give(0, 0, 1);
        for (int i = 0; i < 20 && inside.done(2, KNOWN) == 0; i++) {
            Groups.run(group, 1);
        }
        Check.due("done by the leader", inside.done(2, KNOWN), 1);
        group.lose(inside.place("ANSWER", -1));
        Check.due("the answer is lost", inside.place("ANSWER", -1), -1);
        group.tick(1);
        int before = inside.underWay();
        group.twice(inside.place("COMMAND", 2));
        Check.due("one message less, two answers more", inside.underWay(), before + 1);
        group.twice(inside.place("ANSWER", -1));
        Check.holds("the answer has come", inside.arrived(0));
    }

    private static void anOlderMapIsNotTaken() {
        VersionGroup group = new VersionGroup(3, 2);
        Inside inside = new Inside(group);
        group.map(3);
        int older = inside.place("MAP", 0);
        group.map(5);
        group.deliver(inside.place("MAP", 0));
        Check.due("the newer map", inside.number("nodes", 0, KNOWN, "epoch"), 3);
        group.deliver(older);
        Check.due("still the newer map", inside.number("nodes", 0, KNOWN, "epoch"), 3);
        Check.due("its copies", inside.number("nodes", 0, KNOWN, "keepers"), 5);
    }

    /** A node is told to drop its copy, but first it hears of a map in which it is to keep it. */
    private static void messagesOfAnEarlierEpochAreNotTaken() {
        VersionGroup group = new VersionGroup(3, 2);
        Inside inside = new Inside(group);
        group.give(0, 0, 1);
        Groups.run(group, 20);
        dueDone(inside, 0b110, 1);
        group.map(0b011);
        for (int i = 0; i < 20 && inside.place("DROP", 2) < 0; i++) {
            Groups.run(group, 1);
        }
        group.map(0b110);
        group.deliver(inside.place("MAP", 2));
        Check.holds("the word to drop is under way", inside.place("DROP", 2) >= 0);
        group.deliver(inside.place("DROP", 2));
        Check.due("node 2 keeps its copy", inside.end(2, KNOWN), 1);
        Groups.run(group, 20);
        dueDone(inside, 0b110, 1);
    }

    private static void aCrashedLeaderAsksAnew() {
        for (int kept = 0; kept < 2; kept++) {
            VersionGroup group = new VersionGroup(3, 2);
            Inside inside = new Inside(group);
            Groups.run(group, 10);
            Check.holds("the leader is ready", (Boolean) inside.get("nodes", 2, "reports", "ready"));
            group.crash(2, kept == 1);
            group.restart(2);
            Check.holds("what it heard stands or does not",
                (Boolean) inside.get("nodes", 2, "reports", "ready") == (kept == 1));
            group.tick(1);
            Check.due("it asks", inside.place("ASK", 0) >= 0 ? 1 : 0, 1 - kept);
        }
    }

    private static void theEpochIsFlushed() {
        for (int ticks = 0; ticks < 2; ticks++) {
            VersionGroup group = new VersionGroup(3, 2);
            Inside inside = new Inside(group);
            group.map(3);
            group.deliver(inside.place("MAP", 0));
            if (ticks == 1) {
                group.tick(1);
            }
            group.crash(0, false);
            group.restart(0);
            Check.due("the epoch after " + ticks + " ticks", inside.number("nodes", 0, KNOWN, "epoch"), 1 + ticks);
        }
    }

    private static void theSameMapAgainChangesNothing() {
        VersionGroup group = Groups.calm(3, 2);
        Inside inside = new Inside(group);
        group.map(7);
        group.deliver(0);
        group.deliver(0);
        Check.due("the first under way goes to node 2", inside.place("MAP", 2), 0);
        for (int i = 0; i < 10; i++) {
            group.tick(1);
            for (int j = 0; j < 1000 && inside.underWay() > 1; j++) {
                group.deliver(1);
            }
        }
        Check.holds("the leader is ready", (Boolean) inside.get("nodes", 2, "reports", "ready"));
        Check.due("the map is still under way", inside.place("MAP", 2), 0);
        group.deliver(0);
        Check.holds("the leader stays ready", (Boolean) inside.get("nodes", 2, "reports", "ready"));
    }

    /** So many as have one in common with every R nodes, in whatever epoch these kept the copies. */
    private static void aNewLeaderWaitsForJustEnoughNodes() {
        for (int nodes = 3; nodes <= 6; nodes++) {
            for (int copies = 2; copies <= 3; copies++) {
                for (int up = 0; up < 1 << nodes; up++) {
                    dueReady(nodes, copies, up);
                }
            }
        }
    }

    private static void dueReady(int nodes, int copies, int up) {
        int keepers = Groups.keepers(nodes, copies, -1);
        if ((up & keepers) != keepers) {
            return;
        }
        VersionGroup group = Groups.calm(nodes, copies);
        for (int n = 0; n < nodes; n++) {
            if ((up >>> n & 1) == 0) {
                group.crash(n, false);
            }
        }
        group.map(-1);
        group.give(0, 0, 1);
        Groups.run(group, 10);
        Check.holds("up are " + up + " of " + nodes + ", " + copies + " copies",
            new Inside(group).arrived(0) == (Integer.bitCount(up) > nodes - copies));
    }

    /** Node 5 keeps a copy, is down while others do so many commands, and keeps it again. */
    private static void aNodeThatWasDownCatchesUp() {
        for (int before = 0; before <= 20; before++) {
            for (int missed = 0; missed <= 8; missed++) {
                VersionGroup group = Groups.calm(6, 3);
                for (int i = 0; i < before; i++) {
                    Groups.answerTo(group, 3, 0, 1);
                }
                group.crash(5, false);
                group.map(0b011111);
                Groups.giveMany(group, missed);
                Groups.run(group, 15);
                Inside inside = new Inside(group);
                Check.due("done by node 4", inside.done(4, FLUSHED), before + missed);
                Check.due("done by node 5", inside.done(5, FLUSHED), before);
                Check.due("settle", group.settle(), missed);
                Check.due("done by node 5 then", inside.done(5, FLUSHED), before + missed);
                Check.due("the value", group.at(5, 0, 1), before + missed);
            }
        }
    }

    /**
     * Node 2 reports a command that only it knows, and drops it, for the map has left it out. Then the
     * leader forgets what it heard, and that report comes once more: it tells of a copy that is gone.
     */
    private static void aLateReportHoldsNobodyUp() {
        Check.about(0, "MESSAGES, which may be lost, come twice, and come in any order");
        VersionGroup group = new VersionGroup(3, 2);
        Inside inside = new Inside(group);
        Groups.run(group, 10);
        group.give(0, 0, 1);
        group.deliver(0);
        group.tick(1);
        Groups.loseFirst(group, inside.underWay());
        group.map(0b011);
        Groups.run(group, 1);
        Groups.loseFirst(group, inside.place("REPORT", 1));
        Check.due("the report is of node 2", (Integer) inside.message(0, "from"), 2);
        Check.due("it tells of the command", (Integer) inside.message(0, "end"), 1);
        group.crash(2, true);
        holdBackReportAndCommands(group);
        Check.holds("the leader is ready", (Boolean) inside.get("nodes", 1, "reports", "ready"));
        group.restart(2);
        holdBackReportAndCommands(group);
        Check.due("node 2 has dropped the command", inside.end(2, FLUSHED), 0);
        group.crash(1, false);
        group.restart(1);
        Check.due("the late report", (Integer) inside.message(0, "end"), 1);
        group.deliver(0);
        Groups.run(group, 20);
        Check.holds("the command is answered all the same", inside.arrived(0));
        dueDone(inside, 0b011, 1);
    }

    /** Some ticks in which all messages come but the first, and the commands, which are lost. */
    private static void holdBackReportAndCommands(VersionGroup group) {
        Inside inside = new Inside(group);
        for (int i = 0; i < 5; i++) {
            group.tick(1);
            for (int j = 0; j < 1000 && inside.underWay() > 1; j++) {
                if (inside.message(1, "kind").toString().equals("COMMAND")) {
                    group.lose(1);
                } else {
                    group.deliver(1);
                }
            }
        }
    }
}
