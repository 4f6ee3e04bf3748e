/** Each promise of the document: ordinary calls, the edges that it names, and wrong arguments. */
final class PromiseTest {
    private static final int REFUSED = VersionGroup.REFUSED;
    private static final int FULL = VersionGroup.FULL;
    private static final int BUSY = VersionGroup.BUSY;
    private static final long PENDING = VersionGroup.PENDING;
    private static final int MIN = Groups.MIN;
    private static final int MAX = Groups.MAX;

    public static void main(String[] args) {
        constants();
        promise1NewObject();
        promise1Copies();
        promise2Give();
        promise2Full();
        promise2Commands();
        promises3To5Messages();
        promises3To5Losses();
        promise6Stir();
        promise7Tick();
        promise8Crash();
        promise8Kept();
        promise9Restart();
        promise10Map();
        promise11Settle();
        promise11AfterFailures();
        promise12Answer();
        promise13At();
        promise14Count();
        manyCalls();
        Check.end();
    }

    private static void dueCalm(String after, VersionGroup group, int want) {
        Check.due("calm after " + after, group.count(5), want);
    }

    private static void constants() {
        Check.due("REFUSED", REFUSED, -1);
        Check.due("FULL", FULL, -2);
        Check.due("BUSY", BUSY, -3);
        Check.due("STUCK", VersionGroup.STUCK, -4);
        Check.due("PENDING", PENDING, 1099511627776L);
    }

    private static void promise1NewObject() {
        int[] asked = {MIN, -1, 0, 2, 3, 4, 5, 6, 7, MAX};
        int[] got = {3, 3, 3, 3, 3, 4, 5, 6, 6, 6};
        for (int i = 0; i < asked.length; i++) {
            VersionGroup group = new VersionGroup(asked[i], 2);
            String name = "1: new(" + asked[i] + ", 2)";
            Check.due(name + " commands", group.count(0), 0);
            Check.due(name + " open", group.count(1), 0);
            Check.due(name + " epoch", group.count(2), 1);
            Check.due(name + " up", group.count(3), got[i]);
            Check.due(name + " in", group.count(4), (1 << got[i]) - 1);
            Check.due(name + " calm", group.count(5), 0);
            Check.due(name + " at", group.at(0, 0, 0), BUSY);
            Check.due(name + " last node", group.at(got[i] - 1, 0, 0), BUSY);
            Check.due(name + " no such node", group.at(got[i], 0, 0), REFUSED);
        }
    }

    private static void promise1Copies() {
        // The ranks of nodes 0 to 5 are 0, 4, 8, 1, 5, 9.
        dueKeepers(3, 2, 0b000110);
        dueKeepers(3, 3, 0b000111);
        dueKeepers(4, 2, 0b000110);
        dueKeepers(4, 3, 0b001110);
        dueKeepers(5, 2, 0b010100);
        dueKeepers(5, 3, 0b010110);
        dueKeepers(6, 2, 0b100100);
        dueKeepers(6, 3, 0b110100);
        dueKeepers(6, 1, 0b100100);
        dueKeepers(6, MIN, 0b100100);
        dueKeepers(6, 4, 0b110100);
        dueKeepers(6, MAX, 0b110100);
    }

    private static void dueKeepers(int nodes, int copies, int want) {
        VersionGroup group = new VersionGroup(nodes, copies);
        group.give(0, 39, -7);
        group.settle();
        int keepers = 0;
        for (int n = 0; n < nodes; n++) {
            keepers |= (int) group.at(n, 39, 0) << n;
            Check.due("1: value at " + n, group.at(n, 39, 1), (want >>> n & 1) != 0 ? -7 : 0);
        }
        Check.due("1: copies of new(" + nodes + ", " + copies + ")", keepers, want);
    }

    private static void promise2Give() {
        VersionGroup group = Groups.calm(3, 2);
        int[][] wrong = {
            {-1, 0, 0}, {5, 0, 0}, {MIN, 0, 0}, {MAX, 0, 0}, {0, -1, 0}, {0, 40, 0}, {1, -1, 0}, {2, 40, 0},
            {3, MIN, 0}, {4, MAX, 0}, {4, 0, -1}, {4, 0, 40}, {4, 0, MIN}, {4, 0, MAX}, {4, 40, 0}, {5, 40, 40}};
        for (int[] call : wrong) {
            Check.due("2: give wrong", group.give(call[0], call[1], call[2]), REFUSED);
        }
        Check.due("2: refused commands", group.count(0), 0);
        dueCalm("2: refused give", group, 1);
        int[][] right = {{0, 0, MIN}, {1, 39, MAX}, {2, 0, -1}, {3, 39, 40}, {4, 0, 39}, {4, 39, 0}};
        for (int i = 0; i < right.length; i++) {
            Check.due("2: give", group.give(right[i][0], right[i][1], right[i][2]), i);
            dueCalm("2: give", group, 0);
        }
        Check.due("2: commands", group.count(0), right.length);
    }

    private static void promise2Full() {
        VersionGroup group = Groups.calm(6, 3);
        for (int round = 0; round < 5; round++) {
            for (int i = 0; i < 8; i++) {
                Check.due("2: give", group.give(3, 1, 1), round * 8 + i);
            }
            Check.due("2: the ninth", group.give(3, 1, 1), FULL);
            Check.due("2: wrong before full", group.give(5, 1, 1), REFUSED);
            Check.due("2: wrong key before full", group.give(0, 40, 1), REFUSED);
            Check.due("2: full changes nothing", group.count(0), round * 8 + 8);
            for (int i = 0; i < 10; i++) {
                group.tick(1);
                group.stir(100, i);
            }
            Check.due("2: full until settle", group.give(3, 1, 1), FULL);
            Check.due("2: settle", group.settle(), 8);
            Check.due("2: each once", group.at(5, 1, 1), round * 8 + 8);
        }
    }

    private static void promise2Commands() {
        VersionGroup group = new VersionGroup(4, 3);
        Check.due("SET none", Groups.answerTo(group, 0, 5, 0), 0);
        Check.due("SET to 0 counts as a value", Groups.answerTo(group, 0, 5, 77), 1);
        Check.due("GET", Groups.answerTo(group, 2, 5, 123), 77);
        Check.due("GET none", Groups.answerTo(group, 2, 6, 123), 0);
        Check.due("ADD", Groups.answerTo(group, 3, 5, 3), 80);
        Check.due("ADD none", Groups.answerTo(group, 3, 7, -1), -1);
        Check.due("SET most", Groups.answerTo(group, 0, 7, MAX), 1);
        Check.due("ADD wraps", Groups.answerTo(group, 3, 7, 1), MIN);
        Check.due("ADD wraps back", Groups.answerTo(group, 3, 7, -1), MAX);
        Check.due("CLEAR", Groups.answerTo(group, 1, 7, 9), 1);
        Check.due("CLEAR none", Groups.answerTo(group, 1, 7, 9), 0);
        Check.due("GET cleared", Groups.answerTo(group, 2, 7, 9), 0);
        Check.due("ADD 0 to none", Groups.answerTo(group, 3, 7, 0), 0);
        Check.due("ADD 0 made a value", group.at(2, 7, 0), 1);
        Check.due("MOVE to itself", Groups.answerTo(group, 4, 5, 5), 1);
        Check.due("MOVE to itself keeps", Groups.answerTo(group, 2, 5, 0), 80);
        Check.due("MOVE none to itself", Groups.answerTo(group, 4, 9, 9), 0);
        Check.due("MOVE over a value", Groups.answerTo(group, 4, 5, 7), 1);
        Check.due("MOVE leaves none", group.at(2, 5, 0), 0);
        Check.due("MOVE leaves 0", group.at(2, 5, 1), 0);
        Check.due("MOVE brings", group.at(2, 7, 1), 80);
        Check.due("MOVE none over a value", Groups.answerTo(group, 4, 9, 7), 0);
        Check.due("MOVE none leaves none", group.at(2, 7, 0), 0);
        Check.due("MOVE none leaves 0", group.at(2, 7, 1), 0);
        Check.due("SET key 39", Groups.answerTo(group, 0, 39, MIN), 0);
        Check.due("MOVE 39 to 0", Groups.answerTo(group, 4, 39, 0), 1);
        Check.due("MOVE brought", group.at(1, 0, 1), MIN);
        Check.due("SET none in order", group.give(0, 20, 1), group.count(0) - 1);
        group.give(4, 20, 21);
        group.give(3, 21, 5);
        group.give(1, 21, 0);
        group.settle();
        int last = group.count(0) - 1;
        Check.due("in order, MOVE", group.answer(last - 2), 1);
        Check.due("in order, ADD", group.answer(last - 1), 6);
        Check.due("in order, CLEAR", group.answer(last), 1);
    }

    private static void promises3To5Messages() {
        int[] places = {0, 1, -1, 63, MAX, MIN};
        for (int k : places) {
            VersionGroup group = Groups.calm(5, 2);
            group.deliver(k);
            dueCalm("3: deliver of nothing", group, 0);
            group.settle();
            group.lose(k);
            dueCalm("4: lose of nothing", group, 0);
            group.settle();
            group.twice(k);
            dueCalm("5: twice of nothing", group, 0);
            Check.due("5: at", group.at(0, 0, 0), BUSY);
            group.give(3, 4, 10);
            for (int i = 0; i < 40; i++) {
                group.tick(1);
                group.deliver(k + i);
                group.twice(k - i);
                group.twice(i);
                group.lose(k);
            }
            Check.due("3: answer waits", group.answer(0), PENDING);
            Check.due("3: settle", group.settle(), 1);
            Check.due("3: done once", group.answer(0), 10);
            Check.due("3: value once", group.at(4, 4, 1), 10);
        }
    }

    private static void promises3To5Losses() {
        for (int way = 0; way < 3; way++) {
            VersionGroup group = Groups.calm(6, 3);
            for (int i = 0; i < 8; i++) {
                group.give(3, 0, 1 << i);
            }
            for (int i = 0; i < 60; i++) {
                if (way == 0) {
                    group.deliver(0);
                } else if (way == 1) {
                    group.lose(0);
                } else {
                    group.twice(0);
                }
                if (i % 6 == 0) {
                    group.tick(1);
                }
            }
            Check.due("4: settle", group.settle(), 8);
            for (int i = 0; i < 8; i++) {
                Check.due("4: answer", group.answer(i), (2 << i) - 1);
            }
        }
    }

    private static void promise6Stir() {
        VersionGroup group = Groups.calm(4, 3);
        int[] wrong = {0, -1, 501, MIN, MAX};
        for (int n : wrong) {
            Check.due("6: stir wrong", group.stir(n, 1), REFUSED);
        }
        dueCalm("6: refused stir", group, 1);
        Check.due("6: stir least", group.stir(1, 0), 1);
        dueCalm("6: stir", group, 0);
        int[] seeds = {0, 1, -1, MIN, MAX, 12345};
        for (int seed : seeds) {
            group.give(3, 1, 2);
            group.tick(3);
            Check.due("6: stir most", group.stir(500, seed), 500);
            Check.due("6: stir", group.stir(77, seed), 77);
        }
        Check.due("6: settle", group.settle(), seeds.length);
        Check.due("6: each once", group.at(2, 1, 1), 2 * seeds.length);
    }

    private static void promise7Tick() {
        VersionGroup group = Groups.calm(4, 2);
        int[] wrong = {0, -1, 51, MIN, MAX};
        for (int n : wrong) {
            Check.due("7: tick wrong", group.tick(n), REFUSED);
        }
        dueCalm("7: refused tick", group, 1);
        Check.due("7: tick least", group.tick(1), 1);
        dueCalm("7: tick", group, 0);
        group.give(3, 1, 2);
        for (int i = 0; i < 20; i++) {
            Check.due("7: tick most", group.tick(50), 50);
        }
        Check.due("7: settle", group.settle(), 1);
        Check.due("7: once", group.at(2, 1, 1), 2);
    }

    private static void promise8Crash() {
        VersionGroup group = Groups.calm(3, 2);
        int[] wrong = {-1, 3, 6, MIN, MAX};
        for (int n : wrong) {
            Check.holds("8: no such node", !group.crash(n, true) && !group.crash(n, false));
        }
        dueCalm("8: crash of none", group, 1);
        Check.holds("8: crash", group.crash(0, true));
        dueCalm("8: crash", group, 0);
        Check.due("8: up", group.count(3), 2);
        Check.due("8: still in", group.count(4), 7);
        Check.holds("8: crash again", !group.crash(0, false));
        Check.holds("8: crash others", group.crash(1, false) && group.crash(2, true));
        Check.due("8: none up", group.count(3), 0);
        Check.due("8: give while down", group.give(0, 1, 1), 0);
        group.tick(5);
        group.stir(100, 3);
        Check.due("8: nothing done", group.answer(0), PENDING);
        Check.due("8: settle", group.settle(), 1);
        Check.due("8: answer", group.answer(0), 0);
    }

    /** What was done stands, whether or not nodes keep what they had not flushed. */
    private static void promise8Kept() {
        for (int way = 0; way < 4; way++) {
            VersionGroup group = Groups.calm(5, 3);
            for (int round = 0; round < 10; round++) {
                group.give(3, 3, 1);
                group.give(3, 30 + round % 5, 1);
                group.tick(1);
                group.stir(20, round);
                for (int n = 0; n < 5; n++) {
                    group.crash(n, way == 0 || way == 2 && n % 2 == 0 || way == 3 && round % 2 == 0);
                }
                Check.due("8: settle", group.settle(), 2);
                Check.due("8: stands", group.at(2, 3, 1), round + 1);
                Check.due("8: others too", group.at(1, 30 + round % 5, 1), round / 5 + 1);
            }
        }
    }

    private static void promise9Restart() {
        VersionGroup group = Groups.calm(3, 2);
        int[] wrong = {-1, 0, 1, 2, 3, MIN, MAX};
        for (int n : wrong) {
            Check.holds("9: not down", !group.restart(n));
        }
        dueCalm("9: restart of none", group, 1);
        group.crash(2, false);
        Check.holds("9: restart another", !group.restart(1));
        Check.holds("9: restart", group.restart(2));
        Check.holds("9: restart again", !group.restart(2));
        Check.due("9: up", group.count(3), 3);
        dueCalm("9: restart", group, 0);
        Check.holds("9: crash again", group.crash(2, true));
        group.settle();
        Check.holds("9: up since settle", !group.restart(2));
        dueCalm("9: restart of an up node", group, 1);
    }

    private static void promise10Map() {
        VersionGroup group = Groups.calm(4, 3);
        int[] sets = {15, 15, 1, 0, 0, -1, MIN, MAX, 16, 255, 6, ~3};
        int[] in = {15, 15, 1, 0, 0, 15, 0, 15, 0, 15, 6, 12};
        for (int i = 0; i < sets.length; i++) {
            Check.due("10: map", group.map(sets[i]), 3 + i);
            dueCalm("10: map", group, 0);
            Check.due("10: epoch", group.count(2), 3 + i);
            Check.due("10: in", group.count(4), in[i]);
            Check.due("10: up", group.count(3), 4);
        }
        group.settle();
        Check.due("10: again all", group.count(4), 15);
        group.give(0, 8, 8);
        for (int set = 0; set < 16; set++) {
            group.map(set);
            group.tick(2);
            group.stir(30, set);
        }
        Check.due("10: settle", group.settle(), 1);
        Check.due("10: kept by 3", group.at(3, 8, 1), 8);
        Check.due("10: not by 0", group.at(0, 8, 0), 0);
    }

    private static void promise11Settle() {
        VersionGroup group = new VersionGroup(6, 2);
        for (int i = 0; i < 20; i++) {
            Check.due("11: nothing to do", group.settle(), 0);
            Check.due("11: one more epoch", group.count(2), 2 + i);
            dueCalm("11: settle", group, 1);
        }
        for (int open = 0; open <= 8; open++) {
            for (int i = 0; i < open; i++) {
                group.give(3, 0, 1);
            }
            group.crash(open % 6, false);
            group.map(open);
            Check.due("11: settle", group.settle(), open);
            Check.due("11: all up", group.count(3), 6);
            Check.due("11: all in", group.count(4), 63);
            Check.due("11: none open", group.count(1), 0);
            dueCalm("11: settle", group, 1);
            Check.due("11: each once", group.at(5, 0, 1), open * (open + 1) / 2);
        }
    }

    /** The copies move to quite other nodes and back, with what the first ones know lost. */
    private static void promise11AfterFailures() {
        for (int seed = 0; seed < 50; seed++) {
            VersionGroup group = Groups.calm(6, 3);
            int sum = 0;
            for (int round = 0; round < 6; round++) {
                group.map(round % 2 == 0 ? 0b001011 : 0b110100);
                for (int i = 0; i < 8; i++) {
                    group.give(3, 9, round + i);
                    sum += round + i;
                    group.tick(1);
                    group.stir(25, seed * 100 + i);
                }
                group.crash((seed + round) % 6, false);
                group.crash((seed + 2 * round) % 6, true);
                Check.due("11: settle", group.settle(), 8);
                Check.due("11: last answer", group.answer(group.count(0) - 1), sum);
                for (int n = 0; n < 6; n++) {
                    Check.due("11: copy", group.at(n, 9, 1), (0b110100 >>> n & 1) * sum);
                }
            }
        }
    }

    private static void promise12Answer() {
        VersionGroup group = new VersionGroup(3, 3);
        int[] wrong = {MIN, -1, 0, 1, MAX};
        for (int command : wrong) {
            Check.due("12: none", group.answer(command), REFUSED);
        }
        group.give(3, 0, -1);
        Check.due("12: before", group.answer(0), PENDING);
        for (int i = 0; i < 30; i++) {
            group.tick(1);
            for (int j = 0; j < 3; j++) {
                group.deliver(0);
            }
        }
        Check.due("12: not before settle", group.answer(0), PENDING);
        Check.due("12: not before settle", group.count(1), 1);
        Check.due("12: the next", group.answer(1), REFUSED);
        group.settle();
        dueCalm("12: answer", group, 1);
        Check.due("12: may be -1", group.answer(0), -1);
        Check.due("12: the next", group.answer(1), REFUSED);
        group.give(0, 0, 5);
        group.give(0, 1, 5);
        Check.due("12: earlier ones stay", group.answer(0), -1);
        Check.due("12: open", group.answer(1), PENDING);
        Check.due("12: open", group.answer(2), PENDING);
        group.settle();
        Check.due("12: had one", group.answer(1), 1);
        Check.due("12: had none", group.answer(2), 0);
        Check.due("12: still", group.answer(0), -1);
    }

    private static void promise13At() {
        VersionGroup group = new VersionGroup(4, 2);
        int[][] wrong = {
            {-1, 0, 0}, {4, 0, 0}, {MIN, 0, 0}, {MAX, 0, 0}, {0, -1, 0}, {0, 40, 0}, {0, MIN, 0}, {0, MAX, 1},
            {0, 0, -1}, {0, 0, 2}, {0, 0, MIN}, {0, 0, MAX}};
        for (int round = 0; round < 2; round++) {
            for (int[] call : wrong) {
                Check.due("13: at wrong", group.at(call[0], call[1], call[2]), REFUSED);
            }
            Check.due("13: at", group.at(3, 39, 1), round == 0 ? BUSY : 0);
            group.settle();
        }
        group.give(0, 39, -3);
        Check.due("13: busy", group.at(1, 39, 1), BUSY);
        group.settle();
        Check.due("13: has", group.at(1, 39, 0), 1);
        Check.due("13: value", group.at(1, 39, 1), -3);
        Check.due("13: another key", group.at(1, 38, 0), 0);
        Check.due("13: without a copy", group.at(3, 39, 0), 0);
        Check.due("13: without a copy", group.at(3, 39, 1), 0);
        dueCalm("13: at", group, 1);
        group.give(0, 39, 0);
        group.settle();
        Check.due("13: has 0", group.at(2, 39, 0), 1);
        Check.due("13: value 0", group.at(2, 39, 1), 0);
    }

    private static void promise14Count() {
        VersionGroup group = Groups.calm(5, 2);
        int[] wrong = {-1, 6, MIN, MAX};
        for (int what : wrong) {
            Check.due("14: count wrong", group.count(what), REFUSED);
        }
        group.give(0, 0, 0);
        group.give(0, 1, 0);
        group.settle();
        group.give(0, 2, 0);
        group.crash(4, true);
        group.map(9);
        int[] want = {3, 1, 4, 4, 9, 0};
        for (int what = 0; what < want.length; what++) {
            Check.due("14: count(" + what + ")", group.count(what), want[what]);
        }
        group.settle();
        int[] then = {3, 0, 5, 5, 31, 1};
        for (int what = 0; what < then.length; what++) {
            Check.due("14: count(" + what + ")", group.count(what), then[what]);
        }
    }

    /** Far more calls than are promised: the answers are free, but none may throw or hang. */
    private static void manyCalls() {
        VersionGroup group = new VersionGroup(6, 3);
        for (int i = 0; i < 3000; i++) {
            group.give(i % 5, i % 40, i % 40);
            group.answer(i);
            if (i % 8 == 7) {
                group.settle();
            }
        }
        group.stir(500, 1);
        group.tick(50);
        Check.due("after many calls", group.count(3), 6);
    }
}
