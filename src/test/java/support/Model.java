import java.util.ArrayList;
import java.util.Arrays;
import java.util.HashMap;
import java.util.HashSet;
import java.util.List;
import java.util.Map;
import java.util.NoSuchElementException;
import java.util.Set;
import java.util.TreeMap;

/**
 * A second writing of the document, word by word and with the whole library, for tests alone.
 * It shares nothing with the class: what both say of a random run is compared.
 */
final class Model {
    enum Phase { RUN, STACKING, CHAINING, UNSTACKING, SAVING, LOCKED }

    /** Thrown out of a cycle when the machine locks: what would come behind is left out. */
    private static final class Lock extends RuntimeException {
        private static final long serialVersionUID = 1L;
    }

    static final class Source {
        int number;
        int rank = 255;
        int vector;
        boolean enabled;
        boolean pending;
        boolean active;
        boolean held;
        int pendingSince;
        int beganAt;
        Integer mostWaited;

        int group(int split) {
            return number == 20 ? -1 : (int) (rank / Math.pow(2, split));
        }

        int sub(int split) {
            return number == 20 ? 0 : rank % (int) Math.pow(2, split);
        }
    }

    int[] code = new int[512];
    int[] r = new int[8];
    float[] f = new float[4];
    boolean z;
    boolean n;
    int pc;
    int[] data = new int[16];
    int[] stack = new int[96];
    int sp;
    Source[] sources = new Source[21];
    List<Integer> nest = new ArrayList<>();
    int split;
    int base;
    int shut;
    int clock;
    int period;
    int timerCount;
    List<int[]> arrivals = new ArrayList<>();
    Phase phase = Phase.RUN;
    int steps;
    int stall;
    boolean asleep;
    boolean floats;
    Integer lazy;
    int first = -1;
    boolean stackingFours;
    boolean stackingLeftOut;
    boolean plain;
    List<Integer> beginnings = new ArrayList<>();
    List<Integer> outs = new ArrayList<>();
    List<int[]> events = new ArrayList<>();
    Map<String, Integer> counts = new HashMap<>();
    int mostNest;
    int mostSp;

    Model() {
        for (int i = 0; i < 21; i++) {
            sources[i] = new Source();
            sources[i].number = i;
        }
        sources[20].enabled = true;
    }

    Model copy(boolean asPlain) {
        Model m = new Model();
        m.code = code.clone();
        m.r = r.clone();
        m.f = f.clone();
        m.z = z;
        m.n = n;
        m.pc = pc;
        m.data = data.clone();
        m.stack = stack.clone();
        m.sp = sp;
        for (int i = 0; i < 21; i++) {
            m.sources[i].rank = sources[i].rank;
            m.sources[i].vector = sources[i].vector;
            m.sources[i].enabled = sources[i].enabled;
            m.sources[i].pending = sources[i].pending;
            m.sources[i].active = sources[i].active;
            m.sources[i].held = sources[i].held;
            m.sources[i].pendingSince = sources[i].pendingSince;
            m.sources[i].beganAt = sources[i].beganAt;
        }
        m.nest.addAll(nest);
        m.split = split;
        m.base = base;
        m.shut = shut;
        m.clock = clock;
        m.period = period;
        m.timerCount = timerCount;
        m.arrivals.addAll(arrivals);
        m.phase = phase;
        m.steps = steps;
        m.stall = stall;
        m.asleep = asleep;
        m.floats = floats;
        m.lazy = lazy;
        m.first = first;
        m.stackingFours = stackingFours;
        m.stackingLeftOut = stackingLeftOut;
        m.plain = asPlain;
        return m;
    }

    private void up(String what) {
        counts.merge(what, 1, Integer::sum);
    }

    int counted(String what) {
        return counts.getOrDefault(what, 0);
    }

    private void event(int kind, int source, int detail) {
        events.add(0, new int[] {kind, source, clock, detail});
        if (events.size() > 24) {
            events.remove(24);
        }
    }

    // ---- ranks ----

    int limit(int bySplit, int byShut) {
        List<Integer> all = new ArrayList<>();
        all.add(256);
        for (Source s : sources) {
            if (s.active) {
                all.add(s.group(bySplit));
            }
        }
        if (base != 0) {
            all.add(base / (int) Math.pow(2, bySplit));
        }
        if (byShut == 1) {
            all.add(0);
        }
        return all.stream().mapToInt(Integer::intValue).min().getAsInt();
    }

    boolean can(int i, int byShut) {
        Source s = sources[i];
        return s.pending && s.enabled && s.group(split) < limit(split, byShut);
    }

    int next(int byShut) {
        return Arrays.stream(sources).filter(s -> can(s.number, byShut)).sorted((a, b) -> {
            int byGroup = Integer.compare(a.group(split), b.group(split));
            int bySub = Integer.compare(a.sub(split), b.sub(split));
            return byGroup != 0 ? byGroup : bySub != 0 ? bySub : Integer.compare(a.number, b.number);
        }).mapToInt(s -> s.number).findFirst().orElse(-1);
    }

    int next() {
        return next(shut);
    }

    boolean becomesPending(int i) {
        if (sources[i].pending) {
            up("merged");
            return false;
        }
        sources[i].pending = true;
        sources[i].pendingSince = clock;
        return true;
    }

    // ---- cycles ----

    void cycle() {
        clock++;
        for (int[] a : new ArrayList<>(arrivals)) {
            if (a[1] == clock) {
                becomesPending(a[0]);
                arrivals.remove(a);
            }
        }
        if (period != 0) {
            timerCount--;
            if (timerCount == 0) {
                becomesPending(16);
                timerCount = period;
            }
        }
        try {
            byPhase();
        } catch (Lock l) {
            phase = Phase.LOCKED;
            steps = 0;
        }
    }

    private void byPhase() {
        switch (phase) {
            case RUN -> runPhase();
            case STACKING -> stackingStep();
            case CHAINING -> chainingStep();
            case UNSTACKING -> unstackingStep();
            case SAVING -> savingStep();
            default -> { }
        }
    }

    private void to(Phase p) {
        phase = p;
        steps = 0;
    }

    private void runPhase() {
        if (stall != 0) {
            stall--;
            return;
        }
        if (next() != -1) {
            first = next();
            asleep = false;
            to(Phase.STACKING);
            stackingFours = false;
            stackingLeftOut = false;
            stackingStep();
            return;
        }
        if (asleep) {
            if (next(0) == -1) {
                return;
            }
            asleep = false;
            up("woken");
        }
        instruction();
    }

    private void grow(int by) {
        sp += by;
        mostSp = Math.max(mostSp, sp);
    }

    private void stackingStep() {
        steps++;
        if (steps == 1 && floats) {
            if (96 - sp >= 4) {
                lazy = sp;
                grow(4);
                stackingFours = true;
            } else {
                stackingLeftOut = true;
                raise(19);
                up("no room for fours");
            }
        }
        int[] words = {r[0], r[1], r[2], r[3], pc,
            23040 + (z ? 1 : 0) + (n ? 2 : 0) + (stackingFours ? 4 : 0)};
        if (!stackingLeftOut) {
            if (sp < 96) {
                stack[sp] = words[steps - 1];
                grow(1);
            } else {
                stackingLeftOut = true;
                raise(19);
                up("no room for a word");
            }
        }
        if (steps == 6) {
            int who = next();
            if (plain && can(first, shut)) {
                who = first;
            }
            if (who == -1) {
                to(Phase.UNSTACKING);
                up("stacked for none");
            } else {
                if (who != first) {
                    up("late");
                }
                begins(who, 0);
            }
        }
    }

    private void begins(int who, int kind) {
        Source s = sources[who];
        s.pending = false;
        s.active = true;
        nest.add(who);
        mostNest = Math.max(mostNest, nest.size());
        pc = s.vector;
        floats = false;
        to(Phase.RUN);
        int waited = clock - s.pendingSince;
        s.mostWaited = s.mostWaited == null ? waited : Math.max(waited, s.mostWaited);
        s.beganAt = clock;
        up("began");
        if (kind == 1) {
            up("chained");
        }
        beginnings.add(who);
        event(kind, who, waited);
    }

    private void chainingStep() {
        steps++;
        if (steps == 2) {
            int who = next();
            if (who == -1) {
                to(Phase.UNSTACKING);
                up("chained to none");
            } else {
                begins(who, 1);
            }
        }
    }

    private void unstackingStep() {
        if (!plain && next() != -1) {
            up("abandoned");
            event(4, next(), steps);
            to(Phase.CHAINING);
            chainingStep();
            return;
        }
        if (steps == 0) {
            int bad = 0;
            if (sp < 6) {
                bad = 19;
            } else if (stack[sp - 1] < 23040 || stack[sp - 1] > 23047) {
                bad = 18;
            } else if ((stack[sp - 1] & 4) == 4 && sp < 10) {
                bad = 19;
                up("fours without room");
            } else if (stack[sp - 2] < 0 || stack[sp - 2] > 511) {
                bad = 18;
                up("no place to return to");
            }
            if (bad != 0) {
                up("bad frames");
                raise(bad);
                to(Phase.CHAINING);
                return;
            }
        }
        steps++;
        int mark = stack[sp - 1];
        boolean hasFours = (mark & 4) == 4;
        boolean isLazy = lazy != null && lazy == sp - 10;
        boolean ten = hasFours && !isLazy;
        if (steps < (ten ? 10 : 6)) {
            return;
        }
        if (ten) {
            up("ten");
            for (int i = 0; i < 4; i++) {
                float value = Float.intBitsToFloat(stack[sp - 10 + i]);
                f[i] = Float.isFinite(value) ? value : 0f;
                if (!Float.isFinite(value)) {
                    up("no finite number");
                }
            }
        }
        if (isLazy && hasFours) {
            lazy = null;
            up("spared");
        }
        floats = hasFours;
        for (int i = 0; i < 4; i++) {
            r[i] = stack[sp - 6 + i];
        }
        pc = stack[sp - 2];
        z = (mark & 1) != 0;
        n = (mark & 2) != 0;
        sp = sp - (hasFours ? 10 : 6);
        to(Phase.RUN);
        up("returned");
        event(5, nest.isEmpty() ? -1 : nest.get(nest.size() - 1), sp);
    }

    private void savingStep() {
        stack[lazy + steps] = Float.floatToRawIntBits(f[steps]);
        steps++;
        if (steps == 4) {
            lazy = null;
            up("saved");
            to(Phase.RUN);
        }
    }

    int taker(int fault) {
        if (sources[fault].enabled && sources[fault].group(split) < limit(split, shut)) {
            return fault;
        }
        return sources[20].active ? -1 : 20;
    }

    private void raise(int fault) {
        int who = taker(fault);
        up("raised");
        event(3, who, pc);
        if (who == -1) {
            up("locked");
            throw new Lock();
        }
        if (who == 20) {
            up("escalated");
        } else {
            up("taken by itself");
        }
        becomesPending(who);
    }

    // ---- instructions ----

    private int at(int place) {
        return code[Math.floorMod(place, 512)];
    }

    private void flags(int x, int value) {
        r[x % 8] = value;
        z = value == 0;
        n = value < 0;
    }

    private void instruction() {
        int op = at(pc);
        int x = at(pc + 1);
        int y = at(pc + 2);
        int jump = Math.floorMod(256 * x + y, 512);
        int rx = r[x % 8];
        int ry = r[y % 8];
        int fx = x % 4;
        int fy = y % 4;
        if (op >= 20 && op <= 24 && lazy != null) {
            to(Phase.SAVING);
            savingStep();
            return;
        }
        int length;
        int cycles = 1;
        Integer goTo = null;
        switch (op) {
            case 1 -> { r[x % 8] = y; length = 3; }
            case 2 -> { flags(x, rx + ry); length = 3; }
            case 3 -> { flags(x, rx - ry); length = 3; }
            case 4 -> { flags(x, rx * ry); length = 3; cycles = 2; }
            case 5 -> {
                if (ry == 0) { raise(18); return; }
                flags(x, (int) ((long) rx / ry)); length = 3; cycles = 4;
            }
            case 6 -> { flags(x, rx ^ ry); length = 3; }
            case 7 -> {
                int by = y % 64;
                flags(x, by < 32 ? (int) ((long) rx << by) : (int) ((long) rx >> (by - 32))); length = 3;
            }
            case 8 -> { r[x % 8] = ry; length = 3; }
            case 9 -> {
                if (sp == 96) { raise(19); return; }
                stack[sp] = rx; grow(1); length = 2;
            }
            case 10 -> {
                if (sp == 0) { raise(19); return; }
                sp--; r[x % 8] = stack[sp]; length = 2;
            }
            case 11 -> { length = 3; goTo = jump; }
            case 12 -> { length = 3; if (z) { goTo = jump; } }
            case 13 -> { length = 3; if (n) { goTo = jump; } }
            case 14 -> { becomesPending(x % 18); length = 2; }
            case 15 -> {
                if (!sources[x % 18].held) { sources[x % 18].pending = false; }
                length = 2;
            }
            case 16 -> { shut = x % 2; length = 2; }
            case 17 -> { base = x; length = 2; }
            case 18 -> {
                if (nest.isEmpty()) { raise(18); return; }
                Source s = sources[nest.remove(nest.size() - 1)];
                s.active = false;
                event(2, s.number, clock - s.beganAt);
                if (s.held) { becomesPending(s.number); up("came again"); }
                to(next() != -1 && !plain ? Phase.CHAINING : Phase.UNSTACKING);
                length = 1;
            }
            case 19 -> { asleep = true; length = 1; }
            case 20 -> { f[fx] = (float) (y / 16.0); length = 3; }
            case 21 -> {
                float sum = f[fx] + f[fy];
                if (Float.isInfinite(sum)) { up("infinite"); raise(18); return; }
                f[fx] = sum; length = 3; cycles = 2;
            }
            case 22 -> {
                float product = f[fx] * f[fy];
                if (Float.isInfinite(product)) { up("infinite"); raise(18); return; }
                if (product == 0 && Float.floatToRawIntBits(product) != 0) { up("negative zero"); }
                f[fx] = product; length = 3; cycles = 3;
            }
            case 23 -> { r[x % 8] = (int) f[fy]; length = 3; }
            case 24 -> { f[fx] = ry; length = 3; }
            case 25 -> {
                if (sources[x % 20].active) { raise(18); return; }
                sources[x % 20].rank = Math.floorMod(ry, 256); length = 3;
            }
            case 26 -> {
                if (sp < 2) { raise(19); return; }
                stack[sp - 2] = (int) Math.floorMod((long) stack[sp - 2] + x, 512L); length = 2;
            }
            case 27 -> { outs.add(rx); length = 2; }
            case 28 -> { r[x % 8] = data[y % 16]; length = 3; }
            case 29 -> { data[y % 16] = rx; length = 3; }
            default -> { raise(18); return; }
        }
        if (op >= 20 && op <= 24) {
            floats = true;
        }
        pc = goTo != null ? goTo : (pc + length) % 512;
        stall = cycles - 1;
        up("done");
    }

    // ---- ways ----

    private static final class Open extends RuntimeException {
        private static final long serialVersionUID = 1L;
    }

    private static final int[] THREE = {1, 2, 3, 4, 5, 6, 7, 8, 11, 12, 13, 20, 21, 22, 23, 24, 25, 28, 29};

    /** The cost and the pushes of the ways from a place on. */
    private int[] way(int place, Set<Integer> onWay, Map<Integer, int[]> known) {
        if (onWay.contains(place)) {
            throw new Open();
        }
        if (known.containsKey(place)) {
            return known.get(place);
        }
        int op = code[place];
        if (op == 0 || op > 29 || op == 19) {
            throw new Open();
        }
        int cost = op == 4 || op == 21 ? 2 : op == 5 ? 4 : op == 22 ? 3 : 1;
        int[] best = {cost, 0};
        if (op != 18) {
            int length = Arrays.stream(THREE).anyMatch(t -> t == op) ? 3 : 2;
            Set<Integer> to = new HashSet<>();
            if (op != 11) {
                to.add((place + length) % 512);
            }
            if (op >= 11 && op <= 13) {
                to.add((256 * at(place + 1) + at(place + 2)) % 512);
            }
            onWay.add(place);
            for (int p : to) {
                int[] rest = way(p, onWay, known);
                best[0] = Math.max(best[0], cost + rest[0]);
                best[1] = Math.max(best[1], (op == 9 ? 1 : op == 10 ? -1 : 0) + rest[1]);
            }
            onWay.remove(place);
        }
        known.put(place, best);
        return best;
    }

    private int[] ways(int source) {
        try {
            return way(sources[source].vector, new HashSet<>(), new HashMap<>());
        } catch (Open o) {
            return null;
        }
    }

    // ---- the face ----

    private static boolean in(int i, int low, int high) {
        return low <= i && i <= high;
    }

    boolean load(int at, long word) {
        if (!in(at, 0, 504)) {
            return false;
        }
        byte[] eight = java.nio.ByteBuffer.allocate(8).putLong(word).array();
        for (int i = 0; i < 8; i++) {
            code[at + i] = Byte.toUnsignedInt(eight[i]);
        }
        return true;
    }

    int code(int at) {
        return in(at, 0, 511) ? code[at] : -1;
    }

    boolean rank(int source, int rank) {
        if (!in(source, 0, 19) || !in(rank, 0, 255) || sources[source].active) {
            return false;
        }
        sources[source].rank = rank;
        return true;
    }

    boolean enable(int source, boolean on) {
        if (!in(source, 0, 19)) {
            return false;
        }
        sources[source].enabled = on;
        return true;
    }

    boolean vector(int source, int at) {
        if (!in(source, 0, 20) || !in(at, 0, 511)) {
            return false;
        }
        sources[source].vector = at;
        return true;
    }

    boolean split(int by) {
        if (!in(by, 0, 7) || !nest.isEmpty()) {
            return false;
        }
        split = by;
        return true;
    }

    boolean hold(int source, boolean on) {
        if (!in(source, 8, 15) || sources[source].held == on) {
            return false;
        }
        sources[source].held = on;
        if (on) {
            becomesPending(source);
        }
        return true;
    }

    boolean pend(int source) {
        return in(source, 0, 19) && becomesPending(source);
    }

    boolean clear(int source) {
        if (!in(source, 0, 20) || !sources[source].pending || sources[source].held) {
            return false;
        }
        sources[source].pending = false;
        return true;
    }

    boolean timer(int cycles) {
        if (!in(cycles, 0, 999)) {
            return false;
        }
        period = cycles;
        timerCount = cycles;
        return true;
    }

    boolean arrive(int source, int cycles) {
        if (!in(source, 0, 17) || !in(cycles, 1, 999) || arrivals.size() == 32) {
            return false;
        }
        arrivals.add(new int[] {source, clock + cycles});
        return true;
    }

    int run(int cycles) {
        if (!in(cycles, 1, 200)) {
            return -1;
        }
        int ran = 0;
        while (ran < cycles && phase != Phase.LOCKED) {
            cycle();
            ran++;
        }
        return ran;
    }

    int till(int source) {
        if (!in(source, 0, 20)) {
            return -1;
        }
        for (int i = 1; i <= 300; i++) {
            if (phase == Phase.LOCKED) {
                return -1;
            }
            beginnings.clear();
            cycle();
            if (beginnings.contains(source)) {
                return i;
            }
        }
        return -1;
    }

    int reset() {
        int were = nest.size();
        Model fresh = new Model();
        r = fresh.r;
        f = fresh.f;
        z = false;
        n = false;
        pc = 0;
        data = fresh.data;
        stack = fresh.stack;
        sp = 0;
        for (int i = 0; i < 21; i++) {
            fresh.sources[i].rank = sources[i].rank;
            fresh.sources[i].vector = sources[i].vector;
            fresh.sources[i].enabled = sources[i].enabled;
        }
        sources = fresh.sources;
        nest.clear();
        base = 0;
        shut = 0;
        clock = 0;
        timerCount = period;
        arrivals.clear();
        to(Phase.RUN);
        stall = 0;
        asleep = false;
        floats = false;
        lazy = null;
        outs.clear();
        events.clear();
        counts.clear();
        mostNest = 0;
        mostSp = 0;
        return were;
    }

    int reg(int i) {
        if (!in(i, 0, 11)) {
            throw new NoSuchElementException();
        }
        return i < 8 ? r[i] : Float.floatToRawIntBits(f[i - 8]);
    }

    int word(int cell) {
        if (!in(cell, 0, 95)) {
            throw new IndexOutOfBoundsException();
        }
        return stack[cell];
    }

    int data(int at) {
        if (!in(at, 0, 15)) {
            throw new IndexOutOfBoundsException();
        }
        return data[at];
    }

    int out(int i) {
        if (!in(i, 0, 63) || i >= outs.size()) {
            throw new NoSuchElementException();
        }
        return outs.get(i);
    }

    int source(int source, int what) {
        if (!in(source, 0, 20) || !in(what, 0, 7)) {
            return -2;
        }
        Source s = sources[source];
        return new int[] {source == 20 ? -1 : s.rank, s.vector, s.enabled ? 1 : 0, s.pending ? 1 : 0,
            s.active ? 1 : 0, s.held ? 1 : 0, s.group(split), s.sub(split)}[what];
    }

    int nest(int i) {
        return i >= 0 && i < nest.size() ? nest.get(i) : -1;
    }

    int state(int what) {
        if (!in(what, 0, 15)) {
            return -2;
        }
        return new int[] {phase.ordinal(), steps, stall, asleep ? 1 : 0, pc, sp, z ? 1 : 0, n ? 1 : 0, shut, base,
            floats ? 1 : 0, lazy == null ? -1 : lazy, limit(split, shut), next(), split,
            period == 0 ? 0 : timerCount}[what];
    }

    int count(int what) {
        if (!in(what, 0, 16)) {
            return -1;
        }
        return new int[] {clock, counted("began"), counted("chained"), counted("late"), counted("abandoned"),
            counted("saved"), counted("spared"), counted("raised"), counted("escalated"), counted("merged"),
            counted("done"), nest.size(), mostNest, mostSp, arrivals.size(), outs.size(), events.size()}[what];
    }

    int event(int i, int what) {
        if (!in(i, 0, 23) || !in(what, 0, 3) || i >= events.size()) {
            throw new NoSuchElementException();
        }
        return events.get(i)[what];
    }

    int waited(int source) {
        return in(source, 0, 20) && sources[source].mostWaited != null ? sources[source].mostWaited : -1;
    }

    boolean ahead(int one, int other) {
        if (!in(one, 0, 20) || !in(other, 0, 20) || one == other) {
            return false;
        }
        int[] a = {sources[one].group(split), sources[one].sub(split), one};
        int[] b = {sources[other].group(split), sources[other].sub(split), other};
        return Arrays.compare(a, b) < 0;
    }

    int splits(int source) {
        if (!in(source, 0, 20)) {
            return -1;
        }
        int bits = 0;
        for (int by = 0; by < 8; by++) {
            bits += sources[source].group(by) < limit(by, shut) ? (int) Math.pow(2, by) : 0;
        }
        return bits;
    }

    int escalates(int fault) {
        if (fault != 18 && fault != 19) {
            return -1;
        }
        return phase == Phase.LOCKED || taker(fault) == -1 ? -2 : taker(fault);
    }

    int soon(int source) {
        return in(source, 0, 20) ? copy(false).till(source) : -1;
    }

    int order(int i, boolean asPlain) {
        Model m = copy(asPlain);
        for (int k = 0; k < 300; k++) {
            m.cycle();
        }
        return i >= 0 && i < m.beginnings.size() ? m.beginnings.get(i) : -1;
    }

    int quiet(boolean asPlain) {
        Model m = copy(asPlain);
        for (int k = 0; k <= 300; k++) {
            if (m.phase == Phase.RUN && m.nest.isEmpty() && m.next() == -1) {
                return k;
            }
            m.cycle();
        }
        return -1;
    }

    int window(int source) {
        if (!in(source, 0, 17)) {
            return -1;
        }
        int bits = 0;
        for (int d = 0; d < 20; d++) {
            Model m = copy(false);
            for (int k = 0; k < d; k++) {
                m.cycle();
            }
            m.beginnings.clear();
            m.becomesPending(source);
            for (int k = 0; k < 40; k++) {
                m.cycle();
            }
            if (!m.beginnings.isEmpty() && m.beginnings.get(0) == source) {
                bits |= 1 << d;
            }
        }
        return bits;
    }

    private List<Integer> kept() {
        List<Integer> all = new ArrayList<>();
        for (int i = 0; i < 4; i++) {
            all.add(r[i]);
            all.add(Float.floatToRawIntBits(f[i]));
        }
        all.addAll(List.of(pc, z ? 1 : 0, n ? 1 : 0, sp));
        return all;
    }

    int keeps() {
        if (phase != Phase.RUN || stall != 0 || next() == -1) {
            return -1;
        }
        Model m = copy(false);
        boolean wasLonger = false;
        for (int k = 0; k < 300; k++) {
            m.cycle();
            if (m.nest.size() > nest.size()) {
                wasLonger = true;
            } else if (wasLonger && m.phase == Phase.RUN && m.nest.size() == nest.size()) {
                return m.kept().equals(kept()) ? 1 : 0;
            }
        }
        return -1;
    }

    int cost(int source) {
        int[] w = in(source, 0, 20) ? ways(source) : null;
        return w == null ? -1 : w[0];
    }

    int pushes(int source) {
        int[] w = in(source, 0, 20) ? ways(source) : null;
        return w == null ? -1 : w[1];
    }

    int room(boolean fours) {
        Map<Integer, Integer> most = new TreeMap<>();
        for (Source s : sources) {
            if (s.enabled) {
                int[] w = ways(s.number);
                if (w == null) {
                    return -1;
                }
                most.merge(s.group(split), w[1], Math::max);
            }
        }
        return most.values().stream().mapToInt(p -> p + (fours ? 10 : 6)).sum();
    }
}
