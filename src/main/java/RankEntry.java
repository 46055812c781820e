import java.util.Arrays;
import java.util.NoSuchElementException;

/** One machine of the document: a small processor and the 21 sources that break in on it by rank. */
public final class RankEntry {
    public static final int NONE = -1;

    private static final int OTHERS = -2;

    private static final int SOURCES = 21;
    private static final int FIRST_LEVEL = 8;
    private static final int LAST_LEVEL = 15;
    private static final int TIMER = 16;
    private static final int CALL = 17;
    private static final int WRONG = 18;
    private static final int FULL = 19;
    private static final int HARD = 20;

    private static final int RUN = 0;
    private static final int STACKING = 1;
    private static final int CHAINING = 2;
    private static final int UNSTACKING = 3;
    private static final int SAVING = 4;
    private static final int LOCKED = 5;

    private static final int BEGAN = 0;
    private static final int BEGAN_BY_CHAIN = 1;
    private static final int ENDED = 2;
    private static final int RAISED = 3;
    private static final int ABANDONED = 4;
    private static final int RETURNED = 5;

    private static final int CODE_BYTES = 512;
    private static final int LAST_PLACE = 511;
    private static final int STACK_CELLS = 96;
    private static final int DATA_CELLS = 16;
    private static final int REGISTERS = 8;
    private static final int SINGLES = 4;
    private static final int LAST_RANK = 255;
    /** Held for HARD: it gives the group -1 by every split, and comes ahead of all ranks. */
    private static final int NO_RANK = -1;
    private static final int LAST_SPLIT = 7;
    private static final int LEAST_MARK = 23040;
    private static final int LAST_MARK = 23047;
    private static final int MARK_FOURS = 4;
    private static final int FRAME = 6;
    private static final int FRAME_WITH_FOURS = 10;
    private static final int ARRIVALS_KEPT = 32;
    private static final int EVENTS_KEPT = 24;
    private static final int EVENT_FIELDS = 4;
    private static final int OUTS_KEPT = 64;
    private static final int LONGEST_DELAY = 999;
    private static final int LONGEST_RUN = 200;
    private static final int FORESIGHT = 300;
    private static final int WINDOW_DELAYS = 20;
    private static final int WINDOW_CYCLES = 40;

    private static final int LAST_INSTRUCTION = 29;
    /** Bytes of each instruction, by its number (0 is none). */
    private static final int[] LENGTHS = {
        0, 3, 3, 3, 3, 3, 3, 3, 3, 2, 2, 3, 3, 3, 2, 2, 2, 2, 1, 1, 3, 3, 3, 3, 3, 3, 2, 2, 3, 3};
    /** Cycles of each instruction, by its number (0 is none). */
    private static final int[] CYCLES = {
        0, 1, 1, 1, 2, 4, 1, 1, 1, 1, 1, 1, 1, 1, 1, 1, 1, 1, 1, 1, 1, 2, 3, 1, 1, 1, 1, 1, 1, 1};

    private final int[] bytes;
    private final Machine machine;
    /** What is foretold is played on this one, which is made once and overwritten each time. */
    private final Machine twin;
    private final Ways ways;

    public RankEntry() {
        int[] shared = new int[CODE_BYTES];
        bytes = shared;
        machine = new Machine(shared);
        twin = new Machine(shared);
        ways = new Ways(shared);
    }

    // ---- by hand ----

    public boolean load(int at, long word) {
        if (at < 0 || at > CODE_BYTES - 8) {
            return false;
        }
        for (int i = 0; i < 8; i++) {
            bytes[at + i] = (int) (word >>> (56 - 8 * i)) & 255;
        }
        return true;
    }

    public int code(int at) {
        return isPlace(at) ? bytes[at] : NONE;
    }

    public boolean rank(int source, int rank) {
        if (!isBelow(source, HARD) || rank < 0 || rank > LAST_RANK || machine.sources.active[source]) {
            return false;
        }
        machine.sources.ranks[source] = rank;
        return true;
    }

    public boolean enable(int source, boolean on) {
        if (!isBelow(source, HARD)) {
            return false;
        }
        machine.sources.enabled[source] = on;
        return true;
    }

    public boolean vector(int source, int at) {
        if (!isBelow(source, SOURCES) || !isPlace(at)) {
            return false;
        }
        machine.sources.vectors[source] = at;
        return true;
    }

    public boolean split(int split) {
        if (split < 0 || split > LAST_SPLIT || machine.sources.depth > 0) {
            return false;
        }
        machine.sources.split = split;
        return true;
    }

    public boolean hold(int source, boolean on) {
        if (source < FIRST_LEVEL || source > LAST_LEVEL || machine.sources.held[source] == on) {
            return false;
        }
        machine.sources.held[source] = on;
        if (on) {
            machine.sources.request(source, machine.clock);
        }
        return true;
    }

    public boolean pend(int source) {
        return isBelow(source, HARD) && machine.sources.request(source, machine.clock);
    }

    public boolean clear(int source) {
        return isBelow(source, SOURCES) && machine.sources.withdraw(source);
    }

    public boolean timer(int period) {
        if (period < 0 || period > LONGEST_DELAY) {
            return false;
        }
        machine.agenda.period = period;
        machine.agenda.left = period;
        return true;
    }

    public boolean arrive(int source, int cycles) {
        if (!isBelow(source, CALL + 1) || cycles < 1 || cycles > LONGEST_DELAY) {
            return false;
        }
        return machine.agenda.note(source, machine.clock + cycles);
    }

    public int run(int cycles) {
        if (cycles < 1 || cycles > LONGEST_RUN) {
            return NONE;
        }
        int ran = 0;
        while (ran < cycles && machine.phase != LOCKED) {
            machine.cycle();
            ran++;
        }
        return ran;
    }

    public int till(int source) {
        return isBelow(source, SOURCES) ? machine.cyclesTill(source) : NONE;
    }

    public int reset() {
        int were = machine.sources.depth;
        machine.restart();
        return were;
    }

    // ---- what there is ----

    public int reg(int i) throws NoSuchElementException {
        if (!isBelow(i, REGISTERS + SINGLES)) {
            throw new NoSuchElementException();
        }
        return i < REGISTERS ? machine.core.r[i] : machine.core.f[i - REGISTERS];
    }

    public int word(int cell) throws IndexOutOfBoundsException {
        if (!isBelow(cell, STACK_CELLS)) {
            throw new IndexOutOfBoundsException();
        }
        return machine.core.stack[cell];
    }

    public int data(int at) throws IndexOutOfBoundsException {
        if (!isBelow(at, DATA_CELLS)) {
            throw new IndexOutOfBoundsException();
        }
        return machine.core.data[at];
    }

    public int out(int i) throws NoSuchElementException {
        if (!isBelow(i, OUTS_KEPT) || i >= machine.journal.outs) {
            throw new NoSuchElementException();
        }
        return machine.journal.told[i];
    }

    public int source(int source, int what) {
        if (!isBelow(source, SOURCES)) {
            return OTHERS;
        }
        Sources s = machine.sources;
        switch (what) {
            case 0: return s.ranks[source];
            case 1: return s.vectors[source];
            case 2: return s.enabled[source] ? 1 : 0;
            case 3: return s.pending[source] ? 1 : 0;
            case 4: return s.active[source] ? 1 : 0;
            case 5: return s.held[source] ? 1 : 0;
            case 6: return s.groupBy(source, s.split);
            case 7: return s.subOf(source);
            default: return OTHERS;
        }
    }

    public int nest(int i) {
        return isBelow(i, machine.sources.depth) ? machine.sources.nest[i] : NONE;
    }

    public int state(int what) {
        Core core = machine.core;
        switch (what) {
            case 0: return machine.phase;
            case 1: return machine.steps;
            case 2: return core.stall;
            case 3: return core.asleep ? 1 : 0;
            case 4: return core.pc;
            case 5: return core.sp;
            case 6: return core.z;
            case 7: return core.n;
            case 8: return machine.sources.shut;
            case 9: return machine.sources.base;
            case 10: return core.floats ? 1 : 0;
            case 11: return core.lazy;
            case 12: return machine.sources.limit();
            case 13: return machine.sources.next();
            case 14: return machine.sources.split;
            case 15: return machine.agenda.left;
            default: return OTHERS;
        }
    }

    public int count(int what) {
        Journal journal = machine.journal;
        switch (what) {
            case 0: return machine.clock;
            case 1: return journal.begun;
            case 2: return journal.chained;
            case 3: return journal.late;
            case 4: return journal.abandoned;
            case 5: return journal.saved;
            case 6: return journal.spared;
            case 7: return journal.raised;
            case 8: return journal.escalated;
            case 9: return machine.sources.merged;
            case 10: return journal.done;
            case 11: return machine.sources.depth;
            case 12: return machine.sources.deepest;
            case 13: return machine.core.highest;
            case 14: return machine.agenda.size;
            case 15: return journal.outs;
            case 16: return journal.events;
            default: return NONE;
        }
    }

    public int event(int i, int what) throws NoSuchElementException {
        if (!isBelow(i, machine.journal.events) || !isBelow(what, EVENT_FIELDS)) {
            throw new NoSuchElementException();
        }
        return machine.journal.fieldOf(i, what);
    }

    public int waited(int source) {
        return isBelow(source, SOURCES) ? machine.sources.longest[source] : NONE;
    }

    // ---- what would be ----

    public boolean ahead(int one, int other) {
        return isBelow(one, SOURCES) && isBelow(other, SOURCES) && one != other
            && machine.sources.precedes(one, other);
    }

    public int splits(int source) {
        if (!isBelow(source, SOURCES)) {
            return NONE;
        }
        int bits = 0;
        for (int split = 0; split <= LAST_SPLIT; split++) {
            if (machine.sources.groupBy(source, split) < machine.sources.limitBy(split, machine.sources.shut)) {
                bits |= 1 << split;
            }
        }
        return bits;
    }

    public int escalates(int fault) {
        if (fault != WRONG && fault != FULL) {
            return NONE;
        }
        int taker = machine.phase == LOCKED ? NONE : machine.sources.takerOf(fault);
        return taker == NONE ? OTHERS : taker;
    }

    public int soon(int source) {
        if (!isBelow(source, SOURCES)) {
            return NONE;
        }
        twin.copyFrom(machine, false);
        return twin.cyclesTill(source);
    }

    public int order(int i, boolean plain) {
        if (i < 0) {
            return NONE;
        }
        twin.copyFrom(machine, plain);
        int seen = 0;
        for (int n = 0; n < FORESIGHT && twin.phase != LOCKED; n++) {
            twin.cycle();
            if (twin.beginner != NONE) {
                if (seen == i) {
                    return twin.beginner;
                }
                seen++;
            }
        }
        return NONE;
    }

    public int quiet(boolean plain) {
        twin.copyFrom(machine, plain);
        for (int n = 0; n <= FORESIGHT && twin.phase != LOCKED; n++) {
            if (twin.isQuiet()) {
                return n;
            }
            twin.cycle();
        }
        return NONE;
    }

    public int window(int source) {
        if (!isBelow(source, CALL + 1)) {
            return NONE;
        }
        int bits = 0;
        for (int delay = 0; delay < WINDOW_DELAYS; delay++) {
            twin.copyFrom(machine, false);
            for (int n = 0; n < delay; n++) {
                twin.cycle();
            }
            twin.sources.request(source, twin.clock);
            if (twin.firstToBegin(WINDOW_CYCLES) == source) {
                bits |= 1 << delay;
            }
        }
        return bits;
    }

    public int keeps() {
        if (machine.phase != RUN || machine.core.stall != 0 || machine.sources.next() == NONE) {
            return NONE;
        }
        twin.copyFrom(machine, false);
        int depth = machine.sources.depth;
        boolean longer = false;
        for (int n = 0; n < FORESIGHT && twin.phase != LOCKED; n++) {
            twin.cycle();
            longer = longer || twin.sources.depth > depth;
            if (longer && twin.phase == RUN && twin.sources.depth == depth) {
                return twin.core.isLike(machine.core) ? 1 : 0;
            }
        }
        return NONE;
    }

    // ---- ways through the code ----

    public int cost(int source) {
        if (!isBelow(source, SOURCES)) {
            return NONE;
        }
        int from = machine.sources.vectors[source];
        return ways.survey(from) ? ways.costs[from] : NONE;
    }

    public int pushes(int source) {
        if (!isBelow(source, SOURCES)) {
            return NONE;
        }
        int from = machine.sources.vectors[source];
        return ways.survey(from) ? ways.rises[from] : NONE;
    }

    public int room(boolean fours) {
        return ways.roomFor(machine.sources, fours ? FRAME_WITH_FOURS : FRAME);
    }

    private static boolean isBelow(int i, int bound) {
        return i >= 0 && i < bound;
    }

    private static boolean isPlace(int at) {
        return at >= 0 && at <= LAST_PLACE;
    }

    /** The sources, their ranks, and who may break in. */
    private static final class Sources {
        final int[] ranks = new int[SOURCES];
        final int[] vectors = new int[SOURCES];
        final boolean[] enabled = new boolean[SOURCES];
        final boolean[] pending = new boolean[SOURCES];
        final boolean[] active = new boolean[SOURCES];
        final boolean[] held = new boolean[SOURCES];
        final int[] since = new int[SOURCES];
        final int[] startedAt = new int[SOURCES];
        final int[] longest = new int[SOURCES];
        final int[] nest = new int[SOURCES];
        int depth;
        int deepest;
        int split;
        int base;
        int shut;
        int merged;

        Sources() {
            Arrays.fill(ranks, LAST_RANK);
            ranks[HARD] = NO_RANK;
            Arrays.fill(longest, NONE);
            enabled[HARD] = true;
        }

        /** Ranks, vectors, who is enabled and the split outlive a reset. */
        void restart() {
            for (int i = 0; i < SOURCES; i++) {
                pending[i] = false;
                active[i] = false;
                held[i] = false;
                longest[i] = NONE;
            }
            depth = 0;
            deepest = 0;
            base = 0;
            shut = 0;
            merged = 0;
        }

        /** How long they wait is not copied: nothing that is foretold depends on it. */
        void copyFrom(Sources other) {
            for (int i = 0; i < SOURCES; i++) {
                ranks[i] = other.ranks[i];
                vectors[i] = other.vectors[i];
                enabled[i] = other.enabled[i];
                pending[i] = other.pending[i];
                active[i] = other.active[i];
                held[i] = other.held[i];
                nest[i] = other.nest[i];
            }
            depth = other.depth;
            split = other.split;
            base = other.base;
            shut = other.shut;
        }

        int groupBy(int source, int bySplit) {
            return ranks[source] >> bySplit;
        }

        int subOf(int source) {
            return source == HARD ? 0 : ranks[source] & (1 << split) - 1;
        }

        int limitBy(int bySplit, int byShut) {
            int least = byShut == 1 ? 0 : 256;
            if (base != 0 && base >> bySplit < least) {
                least = base >> bySplit;
            }
            for (int i = 0; i < depth; i++) {
                int group = ranks[nest[i]] >> bySplit;
                least = group < least ? group : least;
            }
            return least;
        }

        int limit() {
            return limitBy(split, shut);
        }

        boolean can(int source) {
            return pending[source] && enabled[source] && ranks[source] >> split < limitBy(split, shut);
        }

        /** The next one, were shut as told. */
        int nextBy(int byShut) {
            int limit = limitBy(split, byShut);
            int best = NONE;
            for (int i = 0; i < SOURCES; i++) {
                if (pending[i] && enabled[i] && ranks[i] >> split < limit && (best == NONE || precedes(i, best))) {
                    best = i;
                }
            }
            return best;
        }

        int next() {
            return nextBy(shut);
        }

        /** The least group and then the least sub is just the least rank. */
        boolean precedes(int one, int other) {
            return ranks[one] != ranks[other] ? ranks[one] < ranks[other] : one < other;
        }

        /** A source becomes pending; false: it was so already. */
        boolean request(int source, int clock) {
            if (pending[source]) {
                merged++;
                return false;
            }
            pending[source] = true;
            since[source] = clock;
            return true;
        }

        /** A source is pending no more; false: it was not, or it is held. */
        boolean withdraw(int source) {
            if (!pending[source] || held[source]) {
                return false;
            }
            pending[source] = false;
            return true;
        }

        /** That which becomes pending by a fault; NONE: the machine locks. */
        int takerOf(int fault) {
            if (enabled[fault] && ranks[fault] >> split < limitBy(split, shut)) {
                return fault;
            }
            return active[HARD] ? NONE : HARD;
        }

        /** A source begins: how long it waited. */
        int start(int source, int clock) {
            int wait = clock - since[source];
            pending[source] = false;
            active[source] = true;
            startedAt[source] = clock;
            longest[source] = Math.max(longest[source], wait);
            if (depth < SOURCES) {
                nest[depth] = source;
                depth++;
            }
            deepest = Math.max(deepest, depth);
            return wait;
        }

        int innermost() {
            return depth > 0 ? nest[depth - 1] : NONE;
        }

        /** The innermost is active no more, and comes again if it is held. */
        void endInnermost(int clock) {
            int source = innermost();
            if (source == NONE) {
                return;
            }
            active[source] = false;
            depth--;
            if (held[source]) {
                request(source, clock);
            }
        }
    }

    /** What comes by itself: arrivals and the timer. */
    private static final class Agenda {
        final int[] who = new int[ARRIVALS_KEPT];
        final int[] due = new int[ARRIVALS_KEPT];
        int size;
        int period;
        int left;

        void restart() {
            size = 0;
            left = period;
        }

        void copyFrom(Agenda other) {
            System.arraycopy(other.who, 0, who, 0, ARRIVALS_KEPT);
            System.arraycopy(other.due, 0, due, 0, ARRIVALS_KEPT);
            size = other.size;
            period = other.period;
            left = other.left;
        }

        boolean note(int source, int clock) {
            if (size >= ARRIVALS_KEPT) {
                return false;
            }
            who[size] = source;
            due[size] = clock;
            size++;
            return true;
        }

        void admit(Sources sources, int clock) {
            int kept = 0;
            for (int i = 0; i < size; i++) {
                if (due[i] == clock) {
                    sources.request(who[i], clock);
                } else {
                    who[kept] = who[i];
                    due[kept] = due[i];
                    kept++;
                }
            }
            size = kept;
        }

        void tick(Sources sources, int clock) {
            if (period == 0) {
                return;
            }
            left--;
            if (left == 0) {
                sources.request(TIMER, clock);
                left = period;
            }
        }
    }

    /** What has happened: counts, events, and what was told. */
    private static final class Journal {
        final int[] told = new int[OUTS_KEPT];
        final int[] fields = new int[EVENTS_KEPT * EVENT_FIELDS];
        int events;
        int latest;
        int outs;
        int begun;
        int chained;
        int late;
        int abandoned;
        int saved;
        int spared;
        int raised;
        int escalated;
        int done;

        void restart() {
            events = 0;
            latest = 0;
            outs = 0;
            begun = 0;
            chained = 0;
            late = 0;
            abandoned = 0;
            saved = 0;
            spared = 0;
            raised = 0;
            escalated = 0;
            done = 0;
        }

        void tell(int value) {
            if (outs < OUTS_KEPT) {
                told[outs] = value;
            }
            outs++;
        }

        void record(int kind, int source, int clock, int detail) {
            latest = latest + 1 < EVENTS_KEPT ? latest + 1 : 0;
            int at = latest * EVENT_FIELDS;
            fields[at] = kind;
            fields[at + 1] = source;
            fields[at + 2] = clock;
            fields[at + 3] = detail;
            events = Math.min(events + 1, EVENTS_KEPT);
        }

        /** A field of an event that is there, so many back. */
        int fieldOf(int back, int what) {
            int row = latest - back;
            return fields[(row < 0 ? row + EVENTS_KEPT : row) * EVENT_FIELDS + what];
        }
    }

    /** Single-precision numbers by their bits, which say what a float's comparisons hide: the sign of 0. */
    private static final class Single {
        private static final int SIGN = 0x80000000;
        private static final int SIZE = 0x7FFFFFFF;
        private static final int INFINITE = 0x7F800000;
        private static final int HIDDEN_ONE = 0x800000;

        static boolean isFor(int op) {
            return op >= 20 && op <= 24;
        }

        static boolean isFinite(int bits) {
            return (bits & INFINITE) != INFINITE;
        }

        /** The number of finite bits. */
        static float valueOf(int bits) {
            int exponent = (bits & INFINITE) >> 23;
            int fraction = bits & (HIDDEN_ONE - 1);
            float value = exponent == 0 ? fraction : fraction + HIDDEN_ONE;
            int power = (exponent == 0 ? 1 : exponent) - 150;
            int left = power < 0 ? -power : power;
            float factor = power < 0 ? 0.5f : 2f;
            for (int i = 0; i < 8 && left >> i != 0; i++) {
                if (i > 0) {
                    factor = factor * factor;
                }
                if ((left >> i & 1) == 1) {
                    value = value * factor;
                }
            }
            return bits < 0 ? 0f - value : value;
        }

        /** The bits of a number; those of 0 are without a sign. */
        static int bitsOf(float value) {
            int sign = value < 0f ? SIGN : 0;
            float size = value < 0f ? 0f - value : value;
            if (size > 3.4028235E38f) {
                return sign | INFINITE;
            }
            if (size < 1.17549435E-38f) {
                // 2 to the power of 149 is beyond a float: it is taken in two parts, 75 and 74
                return sign | (int) (size * 3.7778932E22f * 1.8889466E22f);
            }
            int exponent = 150;
            for (int i = 0; i < 8 && size >= 1099511627776f; i++) {
                size = size * 1.52587890625E-5f;
                exponent += 16;
            }
            for (int i = 0; i < 9 && size < 128f; i++) {
                size = size * 65536f;
                exponent -= 16;
            }
            for (int i = 0; i < 16 && size >= 16777216f; i++) {
                size = size * 0.5f;
                exponent++;
            }
            for (int i = 0; i < 16 && size < 8388608f; i++) {
                size = size * 2f;
                exponent--;
            }
            return sign | exponent << 23 | (int) size - HIDDEN_ONE;
        }

        static int sum(int a, int b) {
            if (((a | b) & SIZE) == 0) {
                return a & b;
            }
            return bitsOf(valueOf(a) + valueOf(b));
        }

        static int product(int a, int b) {
            return (a ^ b) & SIGN | bitsOf(valueOf(a & SIZE) * valueOf(b & SIZE));
        }
    }

    /** Registers, data and stack, and the instructions that touch nothing else. */
    private static final class Core {
        final int[] bytes;
        final int[] r = new int[REGISTERS];
        final int[] f = new int[SINGLES];
        final int[] data = new int[DATA_CELLS];
        final int[] stack = new int[STACK_CELLS];
        int pc;
        int sp;
        int highest;
        int z;
        int n;
        int stall;
        int lazy = NONE;
        boolean floats;
        boolean asleep;

        Core(int[] bytes) {
            this.bytes = bytes;
        }

        void restart() {
            Arrays.fill(r, 0);
            Arrays.fill(f, 0);
            Arrays.fill(data, 0);
            Arrays.fill(stack, 0);
            pc = 0;
            sp = 0;
            highest = 0;
            z = 0;
            n = 0;
            stall = 0;
            lazy = NONE;
            floats = false;
            asleep = false;
        }

        void copyFrom(Core other) {
            System.arraycopy(other.r, 0, r, 0, REGISTERS);
            System.arraycopy(other.f, 0, f, 0, SINGLES);
            System.arraycopy(other.data, 0, data, 0, DATA_CELLS);
            System.arraycopy(other.stack, 0, stack, 0, STACK_CELLS);
            pc = other.pc;
            sp = other.sp;
            z = other.z;
            n = other.n;
            stall = other.stall;
            lazy = other.lazy;
            floats = other.floats;
            asleep = other.asleep;
        }

        /** Whether what an interruption must give back is the same. */
        boolean isLike(Core other) {
            for (int i = 0; i < 4; i++) {
                if (r[i] != other.r[i] || f[i] != other.f[i]) {
                    return false;
                }
            }
            return pc == other.pc && z == other.z && n == other.n && sp == other.sp;
        }

        /** Whether a cycle goes by without an instruction. */
        boolean passes() {
            if (stall > 0) {
                stall--;
                return true;
            }
            return asleep;
        }

        int byteBehind(int by) {
            return bytes[pc + by & LAST_PLACE];
        }

        /** Whether the instruction at hand would spoil singles that the stack still waits for. */
        boolean mustSave() {
            return lazy != NONE && Single.isFor(byteBehind(0));
        }

        /** The fault that the core itself finds in an instruction, or NONE. */
        int faultOf(int op, int x, int y) {
            if (op < 1 || op > LAST_INSTRUCTION) {
                return WRONG;
            }
            switch (op) {
                case 5: return r[y & 7] == 0 ? WRONG : NONE;
                case 9: return sp >= STACK_CELLS ? FULL : NONE;
                case 10: return sp < 1 ? FULL : NONE;
                case 21: return Single.isFinite(Single.sum(f[x & 3], f[y & 3])) ? NONE : WRONG;
                case 22: return Single.isFinite(Single.product(f[x & 3], f[y & 3])) ? NONE : WRONG;
                case 26: return sp < 2 ? FULL : NONE;
                default: return NONE;
            }
        }

        /** Instructions 1 to 8. */
        void reckon(int op, int x, int y) {
            int to = x & 7;
            int from = r[y & 7];
            switch (op) {
                case 1: r[to] = y; break;
                case 2: result(to, r[to] + from); break;
                case 3: result(to, r[to] - from); break;
                case 4: result(to, r[to] * from); break;
                case 5: result(to, from == 0 ? 0 : r[to] / from); break;
                case 6: result(to, r[to] ^ from); break;
                case 7: result(to, (y & 32) == 0 ? r[to] << (y & 31) : r[to] >> (y & 31)); break;
                case 8: r[to] = from; break;
                default: break;
            }
        }

        private void result(int to, int value) {
            r[to] = value;
            z = value == 0 ? 1 : 0;
            n = value < 0 ? 1 : 0;
        }

        /** Instructions 9 to 13, 26, 28 and 29. */
        void move(int op, int x, int y) {
            int place = 256 * x + y & LAST_PLACE;
            switch (op) {
                case 9: push(r[x & 7]); break;
                case 10: r[x & 7] = pop(); break;
                case 11: pc = place; break;
                case 12: pc = z == 1 ? place : pc; break;
                case 13: pc = n == 1 ? place : pc; break;
                case 26: shiftReturn(x); break;
                case 28: r[x & 7] = data[y & 15]; break;
                case 29: data[y & 15] = r[x & 7]; break;
                default: break;
            }
        }

        /** Instructions 20 to 24. */
        void reckonSingles(int op, int x, int y) {
            int to = x & 3;
            int from = y & 3;
            switch (op) {
                case 20: f[to] = Single.bitsOf(y * 0.0625f); break;
                case 21: f[to] = Single.sum(f[to], f[from]); break;
                case 22: f[to] = Single.product(f[to], f[from]); break;
                case 23: r[x & 7] = (int) Single.valueOf(f[from]); break;
                case 24: f[to] = Single.bitsOf((float) r[y & 7]); break;
                default: break;
            }
            floats = true;
        }

        /** False: there is no room. */
        boolean push(int value) {
            if (sp >= STACK_CELLS) {
                return false;
            }
            stack[sp] = value;
            rise(1);
            return true;
        }

        /** The four words of the singles are only made room for; they are written when they must be. */
        boolean pushFours() {
            if (sp > STACK_CELLS - SINGLES) {
                return false;
            }
            lazy = sp;
            rise(SINGLES);
            return true;
        }

        private void rise(int by) {
            sp += by;
            highest = Math.max(highest, sp);
        }

        private int pop() {
            if (sp < 1) {
                return 0;
            }
            sp--;
            return stack[sp];
        }

        private void shiftReturn(int by) {
            if (sp >= 2) {
                stack[sp - 2] = stack[sp - 2] + by & LAST_PLACE;
            }
        }

        void saveSingle(int i) {
            if (lazy >= 0 && lazy + i < STACK_CELLS) {
                stack[lazy + i] = f[i];
            }
        }

        /** The fault for which the words on the stack can't be taken back, or NONE. */
        int frameFault() {
            if (sp < FRAME) {
                return FULL;
            }
            int mark = stack[sp - 1];
            if (mark < LEAST_MARK || mark > LAST_MARK) {
                return WRONG;
            }
            if (hasFours() && sp < FRAME_WITH_FOURS) {
                return FULL;
            }
            return isPlace(stack[sp - 2]) ? NONE : WRONG;
        }

        private boolean hasFours() {
            return (stack[sp - 1] & MARK_FOURS) != 0;
        }

        private boolean isLazyFrame() {
            return hasFours() && lazy == sp - FRAME_WITH_FOURS;
        }

        int frameSteps() {
            return hasFours() && !isLazyFrame() ? FRAME_WITH_FOURS : FRAME;
        }

        /** Takes a whole frame back: whether its four words were spared. */
        boolean popFrame() {
            boolean fours = hasFours();
            boolean spared = isLazyFrame();
            if (spared) {
                lazy = NONE;
            } else if (fours) {
                takeSingles(sp - FRAME_WITH_FOURS);
            }
            int from = sp - FRAME;
            System.arraycopy(stack, from, r, 0, 4);
            pc = stack[from + 4];
            z = stack[from + 5] & 1;
            n = stack[from + 5] >> 1 & 1;
            floats = fours;
            sp -= fours ? FRAME_WITH_FOURS : FRAME;
            return spared;
        }

        private void takeSingles(int from) {
            for (int i = 0; i < SINGLES; i++) {
                f[i] = Single.isFinite(stack[from + i]) ? stack[from + i] : 0;
            }
        }
    }

    /** The whole machine, cycle by cycle; plain: without late arrivals and chains. */
    private static final class Machine {
        final Sources sources = new Sources();
        final Agenda agenda = new Agenda();
        final Journal journal = new Journal();
        final Core core;
        int clock;
        int phase;
        int steps;
        /** That which begins in the latest cycle, or NONE. */
        int beginner = NONE;
        private int first = NONE;
        private boolean leftOut;
        private boolean fours;
        private boolean plain;

        Machine(int[] bytes) {
            core = new Core(bytes);
        }

        void restart() {
            sources.restart();
            agenda.restart();
            journal.restart();
            core.restart();
            clock = 0;
            phase = RUN;
            steps = 0;
        }

        /** The journal is not copied: nothing that is foretold depends on it. */
        void copyFrom(Machine other, boolean asPlain) {
            sources.copyFrom(other.sources);
            agenda.copyFrom(other.agenda);
            core.copyFrom(other.core);
            clock = other.clock;
            phase = other.phase;
            steps = other.steps;
            first = other.first;
            leftOut = other.leftOut;
            fours = other.fours;
            plain = asPlain;
        }

        boolean isQuiet() {
            return phase == RUN && sources.depth == 0 && sources.next() == NONE;
        }

        int cyclesTill(int source) {
            for (int n = 1; n <= FORESIGHT && phase != LOCKED; n++) {
                cycle();
                if (beginner == source) {
                    return n;
                }
            }
            return NONE;
        }

        int firstToBegin(int within) {
            for (int n = 0; n < within && phase != LOCKED; n++) {
                cycle();
                if (beginner != NONE) {
                    return beginner;
                }
            }
            return NONE;
        }

        void cycle() {
            clock++;
            beginner = NONE;
            agenda.admit(sources, clock);
            agenda.tick(sources, clock);
            turn();
            switch (phase) {
                case RUN: running(); break;
                case STACKING: stacking(); break;
                case CHAINING: chaining(); break;
                case UNSTACKING: unstacking(); break;
                case SAVING: saving(); break;
                default: break;
            }
        }

        private void enter(int newPhase) {
            phase = newPhase;
            steps = 0;
        }

        /** A phase whose first step is in the cycle in which it is entered is entered ahead of the step. */
        private void turn() {
            if (phase == RUN && core.stall == 0) {
                leaveRun();
            } else if (phase == UNSTACKING && !plain) {
                abandon();
            }
        }

        private void leaveRun() {
            int next = sources.next();
            if (next != NONE) {
                core.asleep = false;
                first = next;
                leftOut = false;
                fours = false;
                enter(STACKING);
                return;
            }
            if (core.asleep && sources.nextBy(0) != NONE) {
                core.asleep = false;
            }
            if (!core.asleep && core.mustSave()) {
                enter(SAVING);
            }
        }

        private void abandon() {
            int next = sources.next();
            if (next != NONE) {
                journal.abandoned++;
                journal.record(ABANDONED, next, clock, steps);
                enter(CHAINING);
            }
        }

        private void stacking() {
            if (steps == 0 && core.floats) {
                fours = core.pushFours();
                leftOut = !fours;
                if (leftOut) {
                    raise(FULL);
                }
            }
            if (!leftOut && !core.push(frameWord())) {
                leftOut = true;
                raise(FULL);
            }
            if (phase == LOCKED) {
                return;
            }
            steps++;
            if (steps >= FRAME) {
                beginOrUnstack(plain && sources.can(first) ? first : sources.next(), BEGAN);
            }
        }

        private int frameWord() {
            if (steps < 4) {
                return core.r[steps];
            }
            if (steps == 4) {
                return core.pc;
            }
            return LEAST_MARK + core.z + 2 * core.n + (fours ? MARK_FOURS : 0);
        }

        private void chaining() {
            steps++;
            if (steps >= 2) {
                beginOrUnstack(sources.next(), BEGAN_BY_CHAIN);
            }
        }

        private void beginOrUnstack(int source, int kind) {
            if (source == NONE) {
                enter(UNSTACKING);
                return;
            }
            int wait = sources.start(source, clock);
            core.pc = sources.vectors[source];
            core.floats = false;
            enter(RUN);
            beginner = source;
            journal.begun++;
            if (kind == BEGAN_BY_CHAIN) {
                journal.chained++;
            } else if (source != first) {
                journal.late++;
            }
            journal.record(kind, source, clock, wait);
        }

        /** The frame can't change while it is taken back, so what is asked at the first step holds at all. */
        private void unstacking() {
            int fault = core.frameFault();
            if (fault != NONE) {
                raise(fault);
                if (phase != LOCKED) {
                    enter(CHAINING);
                }
                return;
            }
            steps++;
            if (steps >= core.frameSteps()) {
                takeBack();
            }
        }

        private void takeBack() {
            if (core.popFrame()) {
                journal.spared++;
            }
            enter(RUN);
            journal.record(RETURNED, sources.innermost(), clock, core.sp);
        }

        private void saving() {
            core.saveSingle(steps);
            steps++;
            if (steps >= SINGLES) {
                core.lazy = NONE;
                journal.saved++;
                enter(RUN);
            }
        }

        private void raise(int fault) {
            int taker = sources.takerOf(fault);
            journal.raised++;
            journal.record(RAISED, taker, clock, core.pc);
            if (taker == NONE) {
                enter(LOCKED);
                return;
            }
            if (taker == HARD) {
                journal.escalated++;
            }
            sources.request(taker, clock);
        }

        private void running() {
            if (core.passes()) {
                return;
            }
            int op = core.byteBehind(0);
            int x = core.byteBehind(1);
            int y = core.byteBehind(2);
            int fault = core.faultOf(op, x, y);
            if (op == 18 && sources.depth == 0 || op == 25 && sources.active[x % HARD]) {
                fault = WRONG;
            }
            if (fault != NONE) {
                raise(fault);
                return;
            }
            core.stall = CYCLES[op] - 1;
            core.pc = core.pc + LENGTHS[op] & LAST_PLACE;
            if (op <= 8) {
                core.reckon(op, x, y);
            } else if (Single.isFor(op)) {
                core.reckonSingles(op, x, y);
            } else if (op == 18) {
                endInnermost();
            } else {
                core.move(op, x, y);
                govern(op, x, y);
            }
            journal.done++;
        }

        /** Instructions 14 to 17, 19, 25 and 27. */
        private void govern(int op, int x, int y) {
            switch (op) {
                case 14: sources.request(x % (CALL + 1), clock); break;
                case 15: sources.withdraw(x % (CALL + 1)); break;
                case 16: sources.shut = x & 1; break;
                case 17: sources.base = x; break;
                case 19: core.asleep = true; break;
                case 25: sources.ranks[x % HARD] = core.r[y & 7] & LAST_RANK; break;
                case 27: journal.tell(core.r[x & 7]); break;
                default: break;
            }
        }

        private void endInnermost() {
            int source = sources.innermost();
            if (source == NONE) {
                return;
            }
            journal.record(ENDED, source, clock, clock - sources.startedAt[source]);
            sources.endInnermost(clock);
            enter(!plain && sources.next() != NONE ? CHAINING : UNSTACKING);
        }
    }

    /** All ways through the code from a place on, measured. */
    private static final class Ways {
        private static final int UNSEEN = 0;
        private static final int ON_TRAIL = 1;
        private static final int MEASURED = 2;
        /** Each of the 512 places is looked at thrice at most: as it is met, and behind each of two branches. */
        private static final int MOST_LOOKS = 3 * CODE_BYTES;

        private final int[] bytes;
        private final int[] marks = new int[CODE_BYTES];
        private final int[] trail = new int[CODE_BYTES];
        private final int[] most = new int[SOURCES];
        private int length;
        final int[] costs = new int[CODE_BYTES];
        final int[] rises = new int[CODE_BYTES];

        Ways(int[] bytes) {
            this.bytes = bytes;
        }

        /** Measures all places that can be come to; false: they are open. */
        boolean survey(int from) {
            Arrays.fill(marks, UNSEEN);
            length = 0;
            stepOn(from);
            for (int look = 0; look < MOST_LOOKS && length > 0; look++) {
                int at = trail[length - 1];
                int behind = placeBehind(at);
                int told = placeTold(at);
                if (isOpenEnd(bytes[at]) || isMarked(behind, ON_TRAIL) || isMarked(told, ON_TRAIL)) {
                    return false;
                }
                if (isMarked(behind, UNSEEN)) {
                    stepOn(behind);
                } else if (isMarked(told, UNSEEN)) {
                    stepOn(told);
                } else {
                    measure(at, behind, told);
                    length--;
                }
            }
            return length == 0;
        }

        private void stepOn(int at) {
            if (length < CODE_BYTES) {
                marks[at] = ON_TRAIL;
                trail[length] = at;
                length++;
            }
        }

        private boolean isMarked(int at, int mark) {
            return at != NONE && marks[at] == mark;
        }

        private static boolean isOpenEnd(int op) {
            return op < 1 || op > LAST_INSTRUCTION || op == 19;
        }

        /** The place of the instruction behind, if a way can go there, or NONE. */
        private int placeBehind(int at) {
            int op = bytes[at];
            if (isOpenEnd(op) || op == 11 || op == 18) {
                return NONE;
            }
            return at + LENGTHS[op] & LAST_PLACE;
        }

        /** The place that a jump tells, or NONE. */
        private int placeTold(int at) {
            if (bytes[at] < 11 || bytes[at] > 13) {
                return NONE;
            }
            return 256 * bytes[at + 1 & LAST_PLACE] + bytes[at + 2 & LAST_PLACE] & LAST_PLACE;
        }

        private void measure(int at, int behind, int told) {
            int op = bytes[at];
            int cost = 0;
            int rise = 0;
            if (behind != NONE) {
                cost = costs[behind];
                rise = rises[behind];
            }
            if (told != NONE) {
                cost = Math.max(cost, costs[told]);
                rise = Math.max(rise, rises[told]);
            }
            costs[at] = cost + (isOpenEnd(op) ? 0 : CYCLES[op]);
            rises[at] = Math.max(0, rise + (op == 9 ? 1 : 0) - (op == 10 ? 1 : 0));
            marks[at] = MEASURED;
        }

        /** The stack that a nest of all enabled ones can need; NONE: one of them is open. */
        int roomFor(Sources sources, int frame) {
            for (int i = 0; i < SOURCES; i++) {
                if (sources.enabled[i]) {
                    if (!survey(sources.vectors[i])) {
                        return NONE;
                    }
                    most[i] = rises[sources.vectors[i]];
                }
            }
            int all = 0;
            for (int i = 0; i < SOURCES; i++) {
                if (isFirstOfGroup(sources, i)) {
                    all += frame + mostOfGroup(sources, i);
                }
            }
            return all;
        }

        private static boolean isFirstOfGroup(Sources sources, int source) {
            for (int i = 0; i < source; i++) {
                if (areTogether(sources, i, source)) {
                    return false;
                }
            }
            return sources.enabled[source];
        }

        private int mostOfGroup(Sources sources, int source) {
            int best = 0;
            for (int i = source; i < SOURCES; i++) {
                if (areTogether(sources, i, source)) {
                    best = Math.max(best, most[i]);
                }
            }
            return best;
        }

        private static boolean areTogether(Sources sources, int one, int other) {
            return sources.enabled[one]
                && sources.groupBy(one, sources.split) == sources.groupBy(other, sources.split);
        }
    }
}
