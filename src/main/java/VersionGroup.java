/**
 * One table kept by several nodes that fail. See README.md for the protocol and why it is safe.
 */
public final class VersionGroup {
    public static final int REFUSED = -1, FULL = -2, BUSY = -3, STUCK = -4;
    public static final long PENDING = 1L << 40;

    private static final int KEYS = 40;
    /** At most so many commands are open at once: no log needs to reach further back. */
    private static final int WINDOW = 8;
    /** An object is used for at most so many calls, so no more commands come. */
    private static final int CALLS = 512;
    /** Room for messages under way: in one epoch a tick sends 39 at most. What finds no room is lost. */
    private static final int ROOM = 64;
    private static final int TICKS_TO_SETTLE = 1000;
    /** Far above what can come between two ticks: a message has at most one reply. */
    private static final int MANY = 1000000;
    private static final int NOBODY = -1;
    /** The receiver of what goes out of the group: to those who give commands or keep the map. */
    private static final int OUTSIDE = -1;

    private static final int SET = 0, CLEAR = 1, GET = 2, ADD = 3, MOVE = 4;

    private final Post post;
    private final MapKeeper keeper;
    private final Desk desk;
    private final Node[] nodes;
    private boolean calm;

    public VersionGroup(int nodes, int copies) {
        Plan plan = new Plan(Math.max(3, Math.min(6, nodes)), Math.max(2, Math.min(3, copies)));
        this.post = new Post();
        this.keeper = new MapKeeper(plan, post);
        this.desk = new Desk(post);
        this.nodes = new Node[plan.nodes];
        for (int n = 0; n < plan.nodes; n++) {
            this.nodes[n] = new Node(n, plan, post);
        }
    }

    public int give(int kind, int k, int v) {
        if (kind < SET || kind > MOVE || !isKey(k) || kind == MOVE && !isKey(v)) {
            return REFUSED;
        }
        if (desk.isFull()) {
            return FULL;
        }
        calm = false;
        Command command = desk.accept(kind, k, v);
        desk.request(command, keeper.leader, keeper.epoch);
        return command.number;
    }

    public void deliver(int k) {
        calm = false;
        bring(k, 1);
    }

    public void lose(int k) {
        calm = false;
        drop(k);
    }

    public void twice(int k) {
        calm = false;
        bring(k, 2);
    }

    public int stir(int n, int seed) {
        if (n < 1 || n > 500) {
            return REFUSED;
        }
        calm = false;
        int state = seed;
        for (int i = 0; i < n; i++) {
            state = state * 1103515245 + 12345;
            // The low bits of such a sequence repeat soon.
            int chance = state >>> 8;
            int thing = chance % 8;
            int k = chance / 8;
            if (thing < 5) {
                bring(k, 1);
            } else if (thing < 7) {
                drop(k);
            } else {
                bring(k, 2);
            }
        }
        return n;
    }

    public int tick(int n) {
        if (n < 1 || n > 50) {
            return REFUSED;
        }
        calm = false;
        for (int i = 0; i < n; i++) {
            passOneTick();
        }
        return n;
    }

    public boolean crash(int n, boolean kept) {
        if (!isNode(n) || !nodes[n].up) {
            return false;
        }
        calm = false;
        nodes[n].fail(kept);
        return true;
    }

    public boolean restart(int n) {
        if (!isNode(n) || nodes[n].up) {
            return false;
        }
        calm = false;
        nodes[n].up = true;
        return true;
    }

    public int map(int set) {
        calm = false;
        keeper.renew(set);
        keeper.proclaim();
        return keeper.epoch;
    }

    public int settle() {
        int open = desk.open();
        calm = false;
        for (int n = 0; n < nodes.length; n++) {
            nodes[n].up = true;
        }
        keeper.renew(-1);
        keeper.proclaim();
        for (int i = 0; i < TICKS_TO_SETTLE; i++) {
            bringAll();
            passOneTick();
            // Whoever misses something sends at every tick, so silence means nobody does.
            if (post.size == 0 && desk.hasAllAnswers()) {
                desk.tellAnswers();
                calm = true;
                return open;
            }
        }
        return STUCK;
    }

    public long answer(int command) {
        if (command < 0 || command >= desk.given) {
            return REFUSED;
        }
        return command < desk.told ? desk.answers[command] : PENDING;
    }

    public long at(int n, int k, int what) {
        if (!isNode(n) || !isKey(k) || what < 0 || what > 1) {
            return REFUSED;
        }
        if (!calm) {
            return BUSY;
        }
        Copy copy = nodes[n].known.copy;
        if (what == 0) {
            return copy.has(k) ? 1 : 0;
        }
        return copy.values[k];
    }

    public int count(int what) {
        switch (what) {
            case 0:
                return desk.given;
            case 1:
                return desk.open();
            case 2:
                return keeper.epoch;
            case 3:
                return nodesUp();
            case 4:
                return keeper.set;
            case 5:
                return calm ? 1 : 0;
            default:
                return REFUSED;
        }
    }

    private static boolean isKey(int k) {
        return k >= 0 && k < KEYS;
    }

    private boolean isNode(int n) {
        return n >= 0 && n < nodes.length;
    }

    private int nodesUp() {
        int up = 0;
        for (int n = 0; n < nodes.length; n++) {
            if (nodes[n].up) {
                up++;
            }
        }
        return up;
    }

    private void passOneTick() {
        keeper.proclaim();
        desk.requestAll(keeper.leader, keeper.epoch);
        for (int n = 0; n < nodes.length; n++) {
            nodes[n].work();
        }
    }

    private void bring(int k, int times) {
        if (post.size == 0) {
            return;
        }
        int place = Math.floorMod(k, post.size);
        for (int i = 0; i < times; i++) {
            arrive(post.look(place));
        }
        // Only now: the replies must not be written over the message that is being read.
        post.remove(place);
    }

    private void drop(int k) {
        if (post.size > 0) {
            post.remove(Math.floorMod(k, post.size));
        }
    }

    private void bringAll() {
        for (int i = 0; i < MANY && post.size > 0; i++) {
            arrive(post.look(0));
            post.remove(0);
        }
    }

    private void arrive(Message message) {
        if (message.kind == Kind.HEARD) {
            keeper.hear(message);
        } else if (message.kind == Kind.ANSWER) {
            desk.hear(message);
        } else if (isNode(message.to) && nodes[message.to].up) {
            nodes[message.to].hear(message);
        }
    }

    private enum Kind {
        /** To a node: there is a map of this epoch. */
        MAP,
        /** To outside: a node has flushed the map of this epoch. */
        HEARD,
        /** To the leader: do this command, or tell its answer again. */
        COMMAND,
        /** To outside: the answer of a command. */
        ANSWER,
        /** From the leader to any node: report. */
        ASK,
        /** To the leader: how far a node's flushed copy goes. */
        REPORT,
        /** From the leader to a node that is further than it: send your copy. */
        FETCH,
        /** The end of a log and how much of it is done. */
        ENTRIES,
        /** The same with the table, for those whose own log ends too far behind. */
        WHOLE,
        /** From the leader to a node that is to keep no copy any more. */
        DROP
    }

    /** A command never changes, so logs and messages may share it. */
    private static final class Command {
        final int number;
        final int kind;
        final int k;
        final int v;

        Command(int number, int kind, int k, int v) {
            this.number = number;
            this.kind = kind;
            this.k = k;
            this.v = v;
        }
    }

    /**
     * The table after the commands before done, and the last entries of the log that ends at end.
     * Entry i is always command i, so of two copies the one with the greater end knows all that
     * the other knows. A node without a copy has an empty one.
     */
    private static final class Copy {
        int done;
        int end;
        /** Bit k is set if key k has a value; without one, values[k] is 0. */
        long held;
        final int[] values = new int[KEYS];
        /** Of the last commands done: a leader may have to answer them again. */
        final int[] answers = new int[WINDOW];
        final Command[] log = new Command[WINDOW];

        boolean has(int k) {
            return (held >>> k & 1) != 0;
        }

        /** The answer of a command that is done, if it is recent enough to be asked for. */
        boolean remembers(int number) {
            return number >= 0 && number < done && number >= done - WINDOW;
        }

        boolean append(Command command) {
            if (command == null || command.number != end || end - done >= WINDOW) {
                return false;
            }
            log[end % WINDOW] = command;
            end++;
            return true;
        }

        boolean doUpTo(int limit) {
            int before = done;
            int last = Math.min(limit, end);
            while (done < last) {
                answers[done % WINDOW] = perform(log[done % WINDOW]);
                done++;
            }
            return done > before;
        }

        private int perform(Command command) {
            if (command == null) {
                return 0;
            }
            int k = command.k;
            int v = command.v;
            long bit = 1L << k;
            int had = (held & bit) != 0 ? 1 : 0;
            switch (command.kind) {
                case SET:
                    held |= bit;
                    values[k] = v;
                    return had;
                case CLEAR:
                    held &= ~bit;
                    values[k] = 0;
                    return had;
                case ADD:
                    held |= bit;
                    values[k] += v;
                    return values[k];
                case MOVE:
                    if (k != v) {
                        held = held & ~bit & ~(1L << v) | (long) had << v;
                        values[v] = values[k];
                        values[k] = 0;
                    }
                    return had;
                case GET:
                default:
                    return values[k];
            }
        }

        /** Whether the entries that a log with this end lacks still stand in this one. */
        boolean reachesBackTo(int otherEnd) {
            return otherEnd >= end - WINDOW;
        }

        /** Follows the other log; only where it does not reach back far enough takes its table. */
        boolean follow(Copy other, boolean whole) {
            if (!other.reachesBackTo(end)) {
                if (whole) {
                    copyFrom(other, true);
                }
                return whole;
            }
            boolean changed = false;
            for (int i = end; i < other.end; i++) {
                // First do what may be done: the log has room for few that are not.
                changed |= doUpTo(other.done);
                changed |= append(other.log[i % WINDOW]);
            }
            return doUpTo(other.done) | changed;
        }

        /** Without the table this is no copy to keep, only what a message of entries needs. */
        void copyFrom(Copy other, boolean whole) {
            done = other.done;
            end = other.end;
            for (int i = 0; i < WINDOW; i++) {
                log[i] = other.log[i];
            }
            if (whole) {
                held = other.held;
                System.arraycopy(other.values, 0, values, 0, KEYS);
                System.arraycopy(other.answers, 0, answers, 0, WINDOW);
            }
        }

        void empty() {
            done = 0;
            end = 0;
            held = 0;
            for (int k = 0; k < KEYS; k++) {
                values[k] = 0;
            }
        }
    }

    /** Where copies are kept, told by the set of the nodes that are in. */
    private static final class Plan {
        final int nodes;
        final int copies;

        Plan(int nodes, int copies) {
            this.nodes = nodes;
            this.copies = copies;
        }

        int all() {
            return (1 << nodes) - 1;
        }

        /** So many nodes, whichever, have at least one in common with every set of copies. */
        int quorum() {
            return nodes - copies + 1;
        }

        /** The set of nodes that keep copies: none if too few are in. */
        int keepers(int set) {
            if (Integer.bitCount(set & all()) < copies) {
                return 0;
            }
            int chosen = 0;
            for (int i = 0; i < copies; i++) {
                chosen |= 1 << greatest(set & ~chosen);
            }
            return chosen;
        }

        /** The node of the greatest rank in the set. */
        int greatest(int set) {
            int best = NOBODY;
            for (int n = 0; n < nodes; n++) {
                if ((set >>> n & 1) != 0 && (best == NOBODY || n * 37 % 11 > best * 37 % 11)) {
                    best = n;
                }
            }
            return best;
        }
    }

    private static final class Message {
        Kind kind;
        int from;
        int to;
        int epoch;
        /** MAP: the nodes in. */
        int set;
        /** REPORT: how far the log goes and how much of it is done. */
        int end;
        int done;
        /** ANSWER: of which command, and which. */
        int number;
        int answer;
        /** COMMAND. */
        Command command;
        /** ENTRIES (the log alone) and WHOLE. */
        final Copy copy = new Copy();
    }

    /** The messages under way, in the order in which they were sent. */
    private static final class Post {
        /** One more than there is room for: what is written there goes nowhere. */
        private final Message[] slots = new Message[ROOM + 1];
        private final int[] order = new int[ROOM];
        int size;

        Post() {
            for (int i = 0; i <= ROOM; i++) {
                slots[i] = new Message();
            }
            for (int i = 0; i < ROOM; i++) {
                order[i] = i;
            }
        }

        /** The message sent, for the sender to fill in the rest. */
        Message send(Kind kind, int from, int to, int epoch) {
            Message message = slots[ROOM];
            if (size < ROOM) {
                message = slots[order[size]];
                size++;
            }
            message.kind = kind;
            message.from = from;
            message.to = to;
            message.epoch = epoch;
            return message;
        }

        Message look(int place) {
            return place >= 0 && place < size ? slots[order[place]] : slots[ROOM];
        }

        void remove(int place) {
            if (place < 0 || place >= size) {
                return;
            }
            int slot = order[place];
            size--;
            System.arraycopy(order, place + 1, order, place, size - place);
            order[size] = slot;
        }
    }

    /** Stands outside the nodes: makes the maps and tells each node until it has heard. */
    private static final class MapKeeper {
        private final Plan plan;
        private final Post post;
        private final int[] heard;
        int epoch = 1;
        int set;
        int leader;

        MapKeeper(Plan plan, Post post) {
            this.plan = plan;
            this.post = post;
            this.set = plan.all();
            this.leader = plan.greatest(set);
            this.heard = new int[plan.nodes];
            for (int n = 0; n < plan.nodes; n++) {
                heard[n] = epoch;
            }
        }

        void renew(int wanted) {
            epoch++;
            set = wanted & plan.all();
            leader = plan.greatest(plan.keepers(set));
        }

        void proclaim() {
            for (int n = 0; n < plan.nodes; n++) {
                if (heard[n] < epoch) {
                    post.send(Kind.MAP, OUTSIDE, n, epoch).set = set;
                }
            }
        }

        void hear(Message message) {
            if (message.from >= 0 && message.from < plan.nodes) {
                heard[message.from] = Math.max(heard[message.from], message.epoch);
            }
        }
    }

    /** Those who give commands: they ask for each until its answer comes. */
    private static final class Desk {
        private final Post post;
        private final Command[] commands = new Command[WINDOW];
        private final boolean[] arrived = new boolean[WINDOW];
        final int[] answers = new int[CALLS];
        int given;
        /** Answers before this one are told; the others not before the group has settled. */
        int told;

        Desk(Post post) {
            this.post = post;
        }

        int open() {
            return given - told;
        }

        boolean isFull() {
            return open() >= WINDOW || given >= CALLS;
        }

        Command accept(int kind, int k, int v) {
            Command command = new Command(given, kind, k, v);
            commands[given % WINDOW] = command;
            arrived[given % WINDOW] = false;
            given++;
            return command;
        }

        void request(Command command, int leader, int epoch) {
            if (leader != NOBODY) {
                post.send(Kind.COMMAND, OUTSIDE, leader, epoch).command = command;
            }
        }

        void requestAll(int leader, int epoch) {
            for (int i = told; i < given; i++) {
                if (!arrived[i % WINDOW]) {
                    request(commands[i % WINDOW], leader, epoch);
                }
            }
        }

        void hear(Message message) {
            int number = message.number;
            if (number >= told && number < given) {
                answers[number] = message.answer;
                arrived[number % WINDOW] = true;
            }
        }

        boolean hasAllAnswers() {
            for (int i = told; i < given; i++) {
                if (!arrived[i % WINDOW]) {
                    return false;
                }
            }
            return true;
        }

        void tellAnswers() {
            told = given;
        }
    }

    /** What a node knows and must not lose. */
    private static final class Memory {
        int epoch;
        /** The nodes that keep copies in this epoch, and the first of them, who leads. */
        int keepers;
        int leader;
        final Copy copy = new Copy();

        void enter(int newEpoch, int newKeepers, int newLeader) {
            epoch = newEpoch;
            keepers = newKeepers;
            leader = newLeader;
        }

        boolean keeps(int n) {
            return (keepers >>> n & 1) != 0;
        }

        void become(Memory other) {
            enter(other.epoch, other.keepers, other.leader);
            copy.copyFrom(other.copy, true);
        }
    }

    /** What the leader of an epoch has heard from the nodes; never flushed, it can ask again. */
    private static final class Reports {
        final boolean[] heard;
        final int[] ends;
        final int[] dones;
        /** Whether the leader has all that can have been done before its epoch. */
        boolean ready;
        /** How far that may go: once the copies have so much no other node is needed. */
        int base;

        Reports(int nodes) {
            heard = new boolean[nodes];
            ends = new int[nodes];
            dones = new int[nodes];
        }

        void clear() {
            for (int n = 0; n < heard.length; n++) {
                heard[n] = false;
            }
            ready = false;
            base = 0;
        }

        void note(int n, int end, int done) {
            if (n >= 0 && n < heard.length) {
                heard[n] = true;
                ends[n] = end;
                dones[n] = done;
            }
        }

        int size() {
            int size = 0;
            for (int n = 0; n < heard.length; n++) {
                if (heard[n]) {
                    size++;
                }
            }
            return size;
        }

        int furthest(int fallback) {
            int best = fallback;
            for (int n = 0; n < heard.length; n++) {
                if (heard[n] && ends[n] > ends[best]) {
                    best = n;
                }
            }
            return best;
        }

        /** Entries before this one are flushed by all who keep copies. */
        int agreed(int keepers) {
            int least = CALLS;
            for (int n = 0; n < heard.length; n++) {
                if ((keepers >>> n & 1) != 0) {
                    least = Math.min(least, heard[n] ? ends[n] : 0);
                }
            }
            return least;
        }
    }

    private static final class Node {
        private final int self;
        private final Plan plan;
        private final Post post;
        final Memory known = new Memory();
        private final Memory flushed = new Memory();
        private final Reports reports;
        boolean up = true;
        private boolean dirty;
        private boolean owesHeard;
        private boolean owesReport;

        Node(int self, Plan plan, Post post) {
            this.self = self;
            this.plan = plan;
            this.post = post;
            this.reports = new Reports(plan.nodes);
            int keepers = plan.keepers(plan.all());
            known.enter(1, keepers, plan.greatest(keepers));
            flushed.become(known);
        }

        void fail(boolean kept) {
            up = false;
            if (kept) {
                flush();
                return;
            }
            known.become(flushed);
            reports.clear();
            dirty = false;
            owesHeard = false;
            owesReport = false;
        }

        private void flush() {
            if (dirty) {
                flushed.become(known);
                dirty = false;
            }
        }

        void hear(Message message) {
            if (message.kind == Kind.MAP) {
                hearMap(message);
                return;
            }
            // Who has reported in an epoch takes nothing of an earlier one any more.
            if (message.epoch != known.epoch) {
                return;
            }
            switch (message.kind) {
                case COMMAND:
                    hearCommand(message.command);
                    break;
                case ASK:
                    owesReport = true;
                    break;
                case REPORT:
                    reports.note(message.from, message.end, message.done);
                    break;
                case FETCH:
                    post.send(Kind.WHOLE, self, message.from, known.epoch).copy.copyFrom(known.copy, true);
                    // The leader may have asked because of a report from before a DROP.
                    owesReport = true;
                    break;
                case ENTRIES:
                case WHOLE:
                    dirty |= known.copy.follow(message.copy, message.kind == Kind.WHOLE);
                    owesReport = true;
                    break;
                case DROP:
                    known.copy.empty();
                    dirty = true;
                    owesReport = true;
                    break;
                default:
                    break;
            }
        }

        private void hearMap(Message message) {
            owesHeard = true;
            if (message.epoch > known.epoch) {
                int keepers = plan.keepers(message.set);
                known.enter(message.epoch, keepers, plan.greatest(keepers));
                reports.clear();
                dirty = true;
                owesReport = true;
            }
        }

        private void hearCommand(Command command) {
            if (command == null || known.leader != self || !reports.ready) {
                return;
            }
            if (known.copy.remembers(command.number)) {
                tellAnswer(command.number);
            } else {
                dirty |= known.copy.append(command);
            }
        }

        private void tellAnswer(int number) {
            Message message = post.send(Kind.ANSWER, self, OUTSIDE, known.epoch);
            message.number = number;
            message.answer = known.copy.answers[number % WINDOW];
        }

        /** A tick. All that a node reports was flushed before, so it stands whatever happens. */
        void work() {
            if (!up) {
                return;
            }
            flush();
            if (owesHeard) {
                post.send(Kind.HEARD, self, OUTSIDE, known.epoch);
                owesHeard = false;
            }
            if (known.leader == self) {
                lead();
            } else if (owesReport && known.leader != NOBODY) {
                Message message = post.send(Kind.REPORT, self, known.leader, known.epoch);
                message.end = known.copy.end;
                message.done = known.copy.done;
            }
            owesReport = false;
        }

        private void lead() {
            reports.note(self, known.copy.end, known.copy.done);
            if (!reports.ready) {
                prepare();
            }
            if (reports.ready) {
                doWhatIsAgreed();
            }
            for (int n = 0; n < plan.nodes; n++) {
                if (n != self) {
                    guide(n);
                }
            }
        }

        /** What was done in an earlier epoch is known to one node of each quorum. */
        private void prepare() {
            if (reports.size() < plan.quorum()) {
                return;
            }
            int best = reports.furthest(self);
            if (best == self) {
                reports.ready = true;
                reports.base = known.copy.end;
            } else {
                post.send(Kind.FETCH, self, best, known.epoch);
            }
        }

        private void doWhatIsAgreed() {
            int first = known.copy.done;
            dirty |= known.copy.doUpTo(reports.agreed(known.keepers));
            for (int i = first; i < known.copy.done; i++) {
                tellAnswer(i);
            }
        }

        private void guide(int n) {
            if (!reports.heard[n]) {
                post.send(Kind.ASK, self, n, known.epoch);
            } else if (reports.ready && known.keeps(n)) {
                if (reports.ends[n] < known.copy.end || reports.dones[n] < known.copy.done) {
                    sendCopy(n);
                }
            } else if (reports.ready && reports.ends[n] > 0
                    && reports.agreed(known.keepers) >= reports.base) {
                post.send(Kind.DROP, self, n, known.epoch);
            }
        }

        private void sendCopy(int n) {
            boolean whole = !known.copy.reachesBackTo(reports.ends[n]);
            Kind kind = whole ? Kind.WHOLE : Kind.ENTRIES;
            post.send(kind, self, n, known.epoch).copy.copyFrom(known.copy, whole);
        }
    }
}
