/** Promises 1 to 12 and 15: what is done by hand. */
public final class ByHandTest {
    private static final int MIN = Integer.MIN_VALUE;
    private static final int MAX = Integer.MAX_VALUE;

    public static void main(String[] args) {
        newObject();
        load();
        rank();
        enable();
        vector();
        split();
        hold();
        pend();
        clear();
        timer();
        arrive();
        reset();
        Kit.end("ByHandTest");
    }

    private static void newObject() {
        RankEntry busy = Kit.with(0, 1, 0, 9, 27, 0);
        busy.run(2);
        allAsAtFirst(1, new RankEntry());
        RankEntry x = new RankEntry();
        for (int i = 0; i < 512; i++) {
            Kit.due(1, "code(" + i + ")", x.code(i), 0);
        }
        for (int i = 0; i < 20; i++) {
            int[] want = {255, 0, 0, 0, 0, 0, 255, 0};
            for (int what = 0; what < 8; what++) {
                Kit.due(1, "source(" + i + ", " + what + ")", x.source(i, what), want[what]);
            }
        }
        int[] hard = {-1, 0, 1, 0, 0, 0, -1, 0};
        for (int what = 0; what < 8; what++) {
            Kit.due(1, "source(20, " + what + ")", x.source(20, what), hard[what]);
        }
    }

    /** All that a reset also brings back. */
    private static void allAsAtFirst(int promise, RankEntry x) {
        for (int what = 0; what < 14; what++) {
            Kit.due(promise, "state(" + what + ")", x.state(what), what == 11 || what == 13 ? -1 : what == 12 ? 256 : 0);
        }
        for (int what = 0; what <= 16; what++) {
            Kit.due(promise, "count(" + what + ")", x.count(what), 0);
        }
        for (int i = 0; i < 12; i++) {
            Kit.due(promise, "reg(" + i + ")", Kit.reg(x, i), 0);
        }
        for (int i = 0; i < 96; i++) {
            Kit.due(promise, "word(" + i + ")", Kit.word(x, i), 0);
        }
        for (int i = 0; i < 16; i++) {
            Kit.due(promise, "data(" + i + ")", Kit.data(x, i), 0);
        }
        for (int i = 0; i < 21; i++) {
            Kit.due(promise, "pending " + i, x.source(i, 3), 0);
            Kit.due(promise, "active " + i, x.source(i, 4), 0);
            Kit.due(promise, "held " + i, x.source(i, 5), 0);
            Kit.due(promise, "waited(" + i + ")", x.waited(i), -1);
            Kit.due(promise, "nest(" + i + ")", x.nest(i), -1);
        }
        Kit.due(promise, "out(0)", Kit.out(x, 0), Kit.NO_ELEMENT);
        Kit.due(promise, "event(0, 0)", Kit.event(x, 0, 0), Kit.NO_ELEMENT);
    }

    private static void load() {
        RankEntry x = new RankEntry();
        Kit.due(2, "load(0, ..)", x.load(0, 0x01020304050607FFL), true);
        for (int i = 0; i < 7; i++) {
            Kit.due(2, "code(" + i + ")", x.code(i), i + 1);
        }
        Kit.due(2, "code(7)", x.code(7), 255);
        Kit.due(2, "load(3, ..)", x.load(3, 0x8081828384858687L), true);
        Kit.due(2, "code(2)", x.code(2), 3);
        Kit.due(2, "code(3)", x.code(3), 128);
        Kit.due(2, "code(10)", x.code(10), 135);
        Kit.due(2, "code(11)", x.code(11), 0);
        Kit.due(2, "load(504, ..)", x.load(504, -1L), true);
        Kit.due(2, "code(503)", x.code(503), 0);
        Kit.due(2, "code(504)", x.code(504), 255);
        Kit.due(2, "code(511)", x.code(511), 255);
        for (int at : new int[] {-1, 505, 511, 512, MIN, MAX}) {
            Kit.due(2, "load(" + at + ", 0)", x.load(at, 0L), false);
        }
        Kit.due(2, "code(511), nothing was loaded", x.code(511), 255);
        for (int at : new int[] {-1, 512, MIN, MAX}) {
            Kit.due(3, "code(" + at + ")", x.code(at), -1);
        }
        Kit.due(3, "code(511)", x.code(511), 255);
        Kit.due(3, "code(0)", x.code(0), 1);
    }

    private static void rank() {
        RankEntry x = Kit.idle();
        for (int source : new int[] {-1, 20, 21, MIN, MAX}) {
            Kit.due(4, "rank(" + source + ", 3)", x.rank(source, 3), false);
        }
        for (int rank : new int[] {-1, 256, MIN, MAX}) {
            Kit.due(4, "rank(0, " + rank + ")", x.rank(0, rank), false);
        }
        Kit.due(4, "source(0, 0), refused", x.source(0, 0), 255);
        Kit.due(4, "rank(0, 0)", x.rank(0, 0), true);
        Kit.due(4, "rank(19, 255)", x.rank(19, 255), true);
        Kit.due(4, "rank(19, 77)", x.rank(19, 77), true);
        Kit.due(4, "source(0, 0)", x.source(0, 0), 0);
        Kit.due(4, "source(19, 0)", x.source(19, 0), 77);
        Kit.serve(x, 5, 40, 64, 18);
        x.pend(5);
        x.run(5);
        Kit.due(4, "rank(5, 41) as it is stacked for", x.rank(5, 41), true);
        x.run(1);
        Kit.due(4, "rank(5, 42), active", x.rank(5, 42), false);
        Kit.due(4, "source(5, 0)", x.source(5, 0), 41);
        Kit.due(4, "rank(6, 42), another", x.rank(6, 42), true);
        x.run(1);
        Kit.due(4, "rank(5, 43), ended", x.rank(5, 43), true);
    }

    private static void enable() {
        RankEntry x = Kit.idle();
        for (int source : new int[] {-1, 20, 21, MIN, MAX}) {
            Kit.due(5, "enable(" + source + ", true)", x.enable(source, true), false);
            Kit.due(5, "enable(" + source + ", false)", x.enable(source, false), false);
        }
        Kit.due(5, "source(20, 2)", x.source(20, 2), 1);
        Kit.due(5, "enable(19, true)", x.enable(19, true), true);
        Kit.due(5, "source(19, 2)", x.source(19, 2), 1);
        Kit.serve(x, 0, 9, 64, 11, 0, 64);
        Kit.due(5, "enable(0, true) again", x.enable(0, true), true);
        Kit.due(5, "enable(0, false)", x.enable(0, false), true);
        Kit.due(5, "enable(0, false) again", x.enable(0, false), true);
        x.pend(0);
        Kit.due(5, "state(13), none is enabled", x.state(13), -1);
        x.run(20);
        Kit.due(5, "count(1)", x.count(1), 0);
        x.enable(0, true);
        Kit.due(5, "state(13)", x.state(13), 0);
        Kit.due(5, "till(0)", x.till(0), 6);
        x.enable(0, false);
        Kit.due(5, "source(0, 4), active still", x.source(0, 4), 1);
        Kit.due(5, "state(12)", x.state(12), 9);
    }

    private static void vector() {
        RankEntry x = Kit.idle();
        Kit.due(6, "vector(0, 511)", x.vector(0, 511), true);
        Kit.due(6, "vector(20, 300)", x.vector(20, 300), true);
        Kit.due(6, "source(0, 1)", x.source(0, 1), 511);
        Kit.due(6, "source(20, 1)", x.source(20, 1), 300);
        for (int source : new int[] {-1, 21, MIN, MAX}) {
            Kit.due(6, "vector(" + source + ", 1)", x.vector(source, 1), false);
        }
        for (int at : new int[] {-1, 512, MIN, MAX}) {
            Kit.due(6, "vector(0, " + at + ")", x.vector(0, at), false);
        }
        Kit.due(6, "source(0, 1), refused", x.source(0, 1), 511);
        x.rank(0, 3);
        x.enable(0, true);
        x.pend(0);
        x.run(6);
        Kit.due(6, "state(4)", x.state(4), 511);
        Kit.due(6, "vector(0, 0), active", x.vector(0, 0), true);
    }

    private static void split() {
        RankEntry x = Kit.idle();
        for (int split : new int[] {-1, 8, MIN, MAX}) {
            Kit.due(7, "split(" + split + ")", x.split(split), false);
        }
        x.rank(3, 213);
        int[] groups = {213, 106, 53, 26, 13, 6, 3, 1};
        int[] subs = {0, 1, 1, 5, 5, 21, 21, 85};
        for (int split = 0; split < 8; split++) {
            Kit.due(7, "split(" + split + ")", x.split(split), true);
            Kit.due(7, "state(14)", x.state(14), split);
            Kit.due(7, "source(3, 6) by " + split, x.source(3, 6), groups[split]);
            Kit.due(7, "source(3, 7) by " + split, x.source(3, 7), subs[split]);
            Kit.due(7, "source(20, 6) by " + split, x.source(20, 6), -1);
            Kit.due(7, "source(20, 7) by " + split, x.source(20, 7), 0);
        }
        Kit.serve(x, 3, 213, 64, 18);
        x.pend(3);
        x.run(5);
        Kit.due(7, "split(2), none is active yet", x.split(2), true);
        x.run(1);
        Kit.due(7, "split(2), one is active", x.split(2), false);
        Kit.due(7, "split(3), one is active", x.split(3), false);
        Kit.due(7, "state(14)", x.state(14), 2);
        x.run(1);
        Kit.due(7, "split(3), unstacking", x.split(3), true);
    }

    private static void hold() {
        RankEntry x = Kit.idle();
        for (int source : new int[] {-1, 0, 7, 16, 20, 21, MIN, MAX}) {
            Kit.due(8, "hold(" + source + ", true)", x.hold(source, true), false);
            Kit.due(8, "hold(" + source + ", false)", x.hold(source, false), false);
        }
        Kit.due(8, "hold(8, false), it is so", x.hold(8, false), false);
        for (int source = 8; source < 16; source++) {
            Kit.due(8, "hold(" + source + ", true)", x.hold(source, true), true);
            Kit.due(8, "held " + source, x.source(source, 5), 1);
            Kit.due(8, "pending " + source, x.source(source, 3), 1);
        }
        Kit.due(8, "hold(8, true), it is so", x.hold(8, true), false);
        Kit.due(8, "count(9), nothing merged", x.count(9), 0);
        Kit.due(8, "hold(8, false)", x.hold(8, false), true);
        Kit.due(8, "held 8", x.source(8, 5), 0);
        Kit.due(8, "pending 8 stays", x.source(8, 3), 1);
        Kit.due(8, "hold(8, true), pending", x.hold(8, true), true);
        Kit.due(8, "count(9), merged", x.count(9), 1);
        RankEntry y = Kit.idle();
        Kit.serve(y, 9, 30, 64, 18);
        y.hold(9, true);
        Kit.due(8, "till(9)", y.till(9), 6);
        Kit.due(8, "pending 9, begun", y.source(9, 3), 0);
        y.run(1);
        Kit.due(8, "pending 9, ended and held", y.source(9, 3), 1);
        Kit.due(8, "state(0), it comes again", y.state(0), 2);
        Kit.due(8, "till(9) again", y.till(9), 2);
        Kit.due(8, "waited(9)", y.waited(9), 6);
        Kit.dueEvent(8, y, 0, 1, 9, 9, 2);
        y.hold(9, false);
        y.run(1);
        Kit.due(8, "pending 9, ended and not held", y.source(9, 3), 0);
        Kit.due(8, "state(0)", y.state(0), 3);
    }

    private static void pend() {
        RankEntry x = Kit.idle();
        for (int source : new int[] {-1, 20, 21, MIN, MAX}) {
            Kit.due(9, "pend(" + source + ")", x.pend(source), false);
        }
        Kit.due(9, "count(9), others are not merged", x.count(9), 0);
        for (int source = 0; source < 20; source++) {
            Kit.due(9, "pend(" + source + ")", x.pend(source), true);
            Kit.due(9, "pending " + source, x.source(source, 3), 1);
            Kit.due(9, "pend(" + source + ") again", x.pend(source), false);
            Kit.due(9, "count(9)", x.count(9), source + 1);
        }
        RankEntry y = Kit.idle();
        Kit.serve(y, 0, 0, 64, 11, 0, 64);
        y.pend(0);
        y.run(4);
        y.pend(0);
        y.run(2);
        Kit.due(9, "waited(0), merging changes nothing", y.waited(0), 6);
        Kit.due(9, "pend(0), active", y.pend(0), true);
        Kit.due(9, "state(13), its group is no less", y.state(13), -1);
    }

    private static void clear() {
        RankEntry x = Kit.idle();
        for (int source : new int[] {-1, 0, 20, 21, MIN, MAX}) {
            Kit.due(10, "clear(" + source + ")", x.clear(source), false);
        }
        x.pend(0);
        x.pend(19);
        x.hold(8, true);
        Kit.due(10, "clear(0)", x.clear(0), true);
        Kit.due(10, "pending 0", x.source(0, 3), 0);
        Kit.due(10, "clear(0) again", x.clear(0), false);
        Kit.due(10, "clear(19)", x.clear(19), true);
        Kit.due(10, "clear(8), held", x.clear(8), false);
        Kit.due(10, "pending 8", x.source(8, 3), 1);
        x.hold(8, false);
        Kit.due(10, "clear(8), held no more", x.clear(8), true);
        RankEntry y = new RankEntry();
        y.run(1);
        Kit.due(10, "pending 20", y.source(20, 3), 1);
        Kit.due(10, "clear(20)", y.clear(20), true);
        Kit.due(10, "pending 20, cleared", y.source(20, 3), 0);
        Kit.due(10, "clear(20) again", y.clear(20), false);
        RankEntry z = Kit.idle();
        Kit.serve(z, 0, 0, 64, 18);
        z.pend(0);
        z.run(3);
        z.clear(0);
        z.run(3);
        Kit.due(10, "state(0), stacked for none", z.state(0), 3);
        z.run(6);
        Kit.due(10, "state(0), unstacked", z.state(0), 0);
        Kit.due(10, "count(1)", z.count(1), 0);
        Kit.dueEvent(10, z, 0, 5, -1, 12, 0);
    }

    private static void timer() {
        RankEntry x = Kit.idle();
        for (int period : new int[] {-1, 1000, MIN, MAX}) {
            Kit.due(11, "timer(" + period + ")", x.timer(period), false);
        }
        Kit.due(11, "timer(999)", x.timer(999), true);
        Kit.due(11, "state(15)", x.state(15), 999);
        x.run(4);
        Kit.due(11, "state(15) 4 later", x.state(15), 995);
        Kit.due(11, "timer(5)", x.timer(5), true);
        Kit.due(11, "state(15)", x.state(15), 5);
        x.run(4);
        Kit.due(11, "pending 16 after 4", x.source(16, 3), 0);
        Kit.due(11, "state(15) after 4", x.state(15), 1);
        x.run(1);
        Kit.due(11, "pending 16 after 5", x.source(16, 3), 1);
        Kit.due(11, "state(15) anew", x.state(15), 5);
        Kit.due(11, "count(9)", x.count(9), 0);
        x.run(5);
        Kit.due(11, "count(9), merged", x.count(9), 1);
        Kit.due(11, "timer(0)", x.timer(0), true);
        Kit.due(11, "state(15), none", x.state(15), 0);
        x.clear(16);
        x.run(50);
        Kit.due(11, "pending 16, none", x.source(16, 3), 0);
        Kit.due(11, "timer(1)", x.timer(1), true);
        x.run(3);
        Kit.due(11, "count(9), each cycle", x.count(9), 3);
        RankEntry y = Kit.idle();
        Kit.serve(y, 16, 0, 64, 11, 0, 64);
        y.timer(10);
        Kit.due(11, "till(16)", y.till(16), 15);
        Kit.due(11, "waited(16): from the cycle in which it came, the first step in the same", y.waited(16), 5);
    }

    private static void arrive() {
        RankEntry x = Kit.idle();
        for (int source : new int[] {-1, 18, 20, MIN, MAX}) {
            Kit.due(12, "arrive(" + source + ", 5)", x.arrive(source, 5), false);
        }
        for (int cycles : new int[] {-1, 0, 1000, MIN, MAX}) {
            Kit.due(12, "arrive(0, " + cycles + ")", x.arrive(0, cycles), false);
        }
        Kit.due(12, "count(14), none", x.count(14), 0);
        x.run(3);
        Kit.due(12, "arrive(0, 1)", x.arrive(0, 1), true);
        Kit.due(12, "arrive(17, 999)", x.arrive(17, 999), true);
        Kit.due(12, "arrive(8, 2)", x.arrive(8, 2), true);
        Kit.due(12, "arrive(0, 2)", x.arrive(0, 2), true);
        Kit.due(12, "count(14)", x.count(14), 4);
        Kit.due(12, "pending 0 ahead", x.source(0, 3), 0);
        x.run(1);
        Kit.due(12, "pending 0", x.source(0, 3), 1);
        Kit.due(12, "pending 8 ahead", x.source(8, 3), 0);
        Kit.due(12, "count(14) less one", x.count(14), 3);
        x.run(1);
        Kit.due(12, "pending 8", x.source(8, 3), 1);
        Kit.due(12, "held 8", x.source(8, 5), 0);
        Kit.due(12, "count(9), the second one of 0 merged", x.count(9), 1);
        Kit.due(12, "count(14)", x.count(14), 1);
        for (int i = 0; i < 31; i++) {
            Kit.due(12, "arrive(3, 7)", x.arrive(3, 7), true);
        }
        Kit.due(12, "arrive(3, 7), 32 are there", x.arrive(3, 7), false);
        x.run(7);
        Kit.due(12, "count(14) behind 31", x.count(14), 1);
        Kit.due(12, "arrive(3, 7), room again", x.arrive(3, 7), true);
        for (int i = 0; i < 4; i++) {
            x.run(200);
        }
        x.run(189);
        Kit.due(12, "pending 17 at " + x.count(0), x.source(17, 3), 0);
        x.run(1002 - x.count(0));
        Kit.due(12, "pending 17 at 1002", x.source(17, 3), 1);
        Kit.due(12, "count(14)", x.count(14), 0);
        RankEntry y = Kit.idle();
        Kit.serve(y, 4, 0, 64, 18);
        y.arrive(4, 3);
        Kit.due(12, "till(4)", y.till(4), 8);
        Kit.due(12, "waited(4)", y.waited(4), 5);
    }

    /** Machines that between them have everything that a reset sets back. */
    private static RankEntry busy(int kind) {
        RankEntry x = Kit.with(0, 20, 0, 24, 1, 0, 7, 29, 0, 3, 9, 0, 27, 0, 17, 200, 3, 1, 0, 16, 1, 5, 1, 0, 11, 0, 23);
        Kit.serve(x, 3, 64, 64, 27, 0, 18);
        Kit.serve(x, 4, 50, 80, 20, 1, 9, 18);
        Kit.serve(x, 9, 80, 96, 6, 1, 1, 11, 0, 99);
        x.split(2);
        x.timer(50);
        x.arrive(0, 900);
        if (kind == 0) {
            x.run(9);
            return x;
        }
        Kit.put(x, 19, 0);
        x.run(6);
        x.pend(3);
        x.pend(3);
        x.run(4);
        x.pend(4);
        x.run(4);
        if (kind == 1) {
            return x;
        }
        x.run(60);
        x.pend(3);
        x.run(9);
        x.pend(3);
        x.run(40);
        x.pend(3);
        x.run(7);
        if (kind == 2) {
            return x;
        }
        x.hold(9, true);
        Kit.put(x, 99, 255);
        x.run(kind == 3 ? 19 : 60);
        return x;
    }

    private static void everyReset() {
        int[] most = new int[17];
        boolean[] state = new boolean[16];
        for (int kind = 0; kind < 5; kind++) {
            RankEntry x = busy(kind);
            for (int i = 0; i < 17; i++) {
                most[i] = Math.max(most[i], x.count(i));
            }
            for (int i = 0; i < 14; i++) {
                state[i] |= x.state(i) != (i == 11 || i == 13 ? -1 : i == 12 ? 256 : 0);
            }
            int were = x.count(11);
            Kit.due(15, "reset()", x.reset(), were);
            allAsAtFirst(15, x);
            Kit.due(15, "split stays", x.state(14), 2);
            Kit.due(15, "the timer counts anew", x.state(15), 50);
            x.run(200);
            x.reset();
            allAsAtFirst(15, x);
        }
        for (int i = 0; i < 17; i++) {
            Kit.due(15, "count(" + i + ") came up ahead of a reset", most[i] > 0, true);
        }
        for (int i : new int[] {0, 1, 2, 4, 5, 7, 8, 9, 10, 11, 12}) {
            Kit.due(15, "state(" + i + ") came up ahead of a reset", state[i], true);
        }
    }

    private static void reset() {
        everyReset();
        RankEntry x = Kit.with(0, 20, 0, 24, 1, 0, 7, 29, 0, 3, 9, 0, 27, 0, 17, 200, 14, 3, 11, 0, 17);
        Kit.serve(x, 3, 64, 64, 1, 1, 0, 6, 1, 1, 16, 1, 14, 2, 19, 11, 0, 75);
        Kit.serve(x, 9, 80, 64);
        x.vector(20, 99);
        x.split(2);
        x.timer(50);
        x.hold(9, true);
        x.arrive(0, 900);
        x.pend(0);
        x.till(3);
        x.run(8);
        Kit.due(15, "nest ahead of it", x.count(11) > 0, true);
        int were = x.count(11);
        Kit.due(15, "reset()", x.reset(), were);
        allAsAtFirst(15, x);
        Kit.due(15, "split stays", x.state(14), 2);
        Kit.due(15, "the timer counts anew", x.state(15), 50);
        Kit.due(15, "rank stays", x.source(3, 0), 64);
        Kit.due(15, "vector stays", x.source(20, 1), 99);
        Kit.due(15, "enabled stays", x.source(9, 2), 1);
        Kit.due(15, "not enabled stays", x.source(4, 2), 0);
        Kit.due(15, "code stays", x.code(0), 20);
        Kit.due(15, "reset() again, none", x.reset(), 0);
        RankEntry y = new RankEntry();
        y.run(200);
        Kit.due(15, "locked", y.state(0), 5);
        Kit.due(15, "reset(), locked", y.reset(), 1);
        Kit.due(15, "run(1) goes again", y.run(1), 1);
        RankEntry s = Kit.with(0, 19);
        s.run(1);
        Kit.due(15, "asleep", s.state(3), 1);
        Kit.due(15, "reset(), asleep", s.reset(), 0);
        allAsAtFirst(15, s);
    }
}
