/** Promises 26 to 33: what would be, which changes nothing. */
public final class ForetellingTest {
    private static final int MIN = Integer.MIN_VALUE;
    private static final int MAX = Integer.MAX_VALUE;

    public static void main(String[] args) {
        ahead();
        splits();
        escalates();
        soon();
        order();
        quiet();
        window();
        keeps();
        keepsNot();
        nothingChanges();
        Kit.end("ForetellingTest");
    }

    private static void ahead() {
        RankEntry x = new RankEntry();
        x.rank(3, 65);
        x.rank(5, 64);
        x.rank(6, 64);
        for (int split : new int[] {0, 3, 7}) {
            x.split(split);
            Kit.due(26, "ahead(5, 3), by sub or group", x.ahead(5, 3), true);
            Kit.due(26, "ahead(3, 5)", x.ahead(3, 5), false);
            Kit.due(26, "ahead(5, 6), by number", x.ahead(5, 6), true);
            Kit.due(26, "ahead(6, 5)", x.ahead(6, 5), false);
            Kit.due(26, "ahead(20, 5)", x.ahead(20, 5), true);
            Kit.due(26, "ahead(5, 20)", x.ahead(5, 20), false);
        }
        x.rank(0, 0);
        Kit.due(26, "ahead(20, 0)", x.ahead(20, 0), true);
        Kit.due(26, "ahead(0, 20)", x.ahead(0, 20), false);
        Kit.due(26, "ahead(3, 3)", x.ahead(3, 3), false);
        Kit.due(26, "ahead(20, 20)", x.ahead(20, 20), false);
        for (int source : new int[] {-1, 21, MIN, MAX}) {
            Kit.due(26, "ahead(" + source + ", 3)", x.ahead(source, 3), false);
            Kit.due(26, "ahead(3, " + source + ")", x.ahead(3, source), false);
        }
    }

    private static void splits() {
        RankEntry x = Kit.with(0, 17, 100, 11, 0, 2);
        x.rank(3, 97);
        for (int source : new int[] {-1, 21, MIN, MAX}) {
            Kit.due(27, "splits(" + source + ")", x.splits(source), -1);
        }
        Kit.due(27, "splits(3)", x.splits(3), 255);
        x.run(1);
        // 100 and 97: 50, 48; 25, 24; 12, 12
        Kit.due(27, "splits(3), base 100", x.splits(3), 7);
        Kit.due(27, "splits(20), base 100", x.splits(20), 255);
        x.rank(3, 100);
        Kit.due(27, "splits(3), its rank is the base", x.splits(3), 0);
        x.rank(3, 5);
        // 5 by 6 and 7 is 0, 100 by 6 is 1, by 7 is 0
        Kit.due(27, "splits(3), rank 5", x.splits(3), 127);
        RankEntry y = Kit.with(0, 16, 1, 11, 0, 2);
        y.run(1);
        y.rank(3, 0);
        Kit.due(27, "splits(3), shut", y.splits(3), 0);
        Kit.due(27, "splits(20), shut", y.splits(20), 255);
        RankEntry z = Kit.idle();
        Kit.serve(z, 4, 16, 64, 11, 0, 64);
        z.split(7);
        z.pend(4);
        z.till(4);
        z.rank(5, 15);
        // 16 and 15 by 4 are 1 and 0, by 5 both 0
        Kit.due(27, "splits(5), one of 16 is active", z.splits(5), 31);
        Kit.due(27, "splits(4), active itself", z.splits(4), 0);
        RankEntry h = new RankEntry();
        h.till(20);
        Kit.due(27, "splits(20), HARD is active", h.splits(20), 0);
    }

    private static void escalates() {
        RankEntry x = Kit.with(0, 17, 100, 11, 0, 2);
        for (int fault : new int[] {-1, 17, 20, 0, MIN, MAX}) {
            Kit.due(28, "escalates(" + fault + ")", x.escalates(fault), -1);
        }
        x.enable(19, true);
        Kit.due(28, "escalates(18), not enabled", x.escalates(18), 20);
        Kit.due(28, "escalates(19)", x.escalates(19), 19);
        x.run(1);
        Kit.due(28, "escalates(19), base 100", x.escalates(19), 20);
        x.rank(19, 99);
        Kit.due(28, "escalates(19), rank 99", x.escalates(19), 19);
        x.pend(19);
        Kit.due(28, "escalates(19), pending already", x.escalates(19), 19);
        RankEntry s = Kit.with(0, 17, 100, 11, 0, 2);
        s.enable(18, true);
        s.rank(18, 95);
        s.split(3);
        s.run(1);
        Kit.due(28, "escalates(18), the group 11 of 12", s.escalates(18), 18);
        s.rank(18, 96);
        Kit.due(28, "escalates(18), the group 12 of 12", s.escalates(18), 20);
        RankEntry y = new RankEntry();
        y.enable(18, true);
        y.rank(18, 0);
        y.enable(18, false);
        y.till(20);
        Kit.due(28, "escalates(18), HARD is active", y.escalates(18), -2);
        Kit.due(28, "state(0), not locked", y.state(0), 0);
        y.run(1);
        y.enable(18, true);
        Kit.due(28, "state(0), locked", y.state(0), 5);
        Kit.due(28, "escalates(18), locked", y.escalates(18), -2);
        Kit.due(28, "escalates(19), locked", y.escalates(19), -2);
        Kit.due(28, "escalates(20), locked", y.escalates(20), -1);
        Kit.due(28, "count(7), nothing is raised", y.count(7), 2);
    }

    private static void soon() {
        RankEntry x = Kit.idle();
        Kit.serve(x, 1, 5, 64, 18);
        Kit.serve(x, 16, 6, 64, 18);
        for (int source : new int[] {-1, 21, MIN, MAX, 2, 20}) {
            Kit.due(29, "soon(" + source + ")", x.soon(source), -1);
        }
        x.arrive(1, 295);
        Kit.due(29, "soon(1), the last cycle", x.soon(1), 300);
        Kit.due(29, "soon(16)", x.soon(16), -1);
        x.timer(20);
        Kit.due(29, "soon(16), the timer", x.soon(16), 25);
        x.timer(0);
        x.reset();
        x.arrive(1, 296);
        Kit.due(29, "soon(1), a cycle too late", x.soon(1), -1);
        x.run(1);
        Kit.due(29, "soon(1), a cycle on", x.soon(1), 300);
        RankEntry l = Kit.idle();
        Kit.serve(l, 1, 5, 64, 18);
        Kit.serve(l, 2, 6, 64, 18);
        l.pend(2);
        l.run(5);
        l.pend(1);
        Kit.due(29, "soon(1), late", l.soon(1), 1);
        Kit.due(29, "soon(2), by a chain", l.soon(2), 4);
        RankEntry y = new RankEntry();
        y.run(200);
        Kit.due(29, "soon(20), locked", y.soon(20), -1);
    }

    private static void order() {
        RankEntry x = Kit.idle();
        Kit.serve(x, 1, 50, 64, 18);
        Kit.serve(x, 2, 40, 64, 18);
        Kit.serve(x, 3, 30, 64, 18);
        x.pend(1);
        x.run(2);
        x.pend(2);
        x.arrive(3, 6);
        // this one: 2 late at 6, ends at 7; 3 comes at 8, chained at 9; 1 at 12
        Kit.due(30, "order(0, false)", x.order(0, false), 2);
        Kit.due(30, "order(1, false)", x.order(1, false), 3);
        Kit.due(30, "order(2, false)", x.order(2, false), 1);
        Kit.due(30, "order(3, false)", x.order(3, false), -1);
        // plain: 1 at 6; 2 breaks in on it, and begins at 12 though 3 came at 8; 3 breaks in on that
        Kit.due(30, "order(0, true)", x.order(0, true), 1);
        Kit.due(30, "order(1, true)", x.order(1, true), 2);
        Kit.due(30, "order(2, true)", x.order(2, true), 3);
        Kit.due(30, "order(3, true)", x.order(3, true), -1);
        for (int i : new int[] {-1, MIN, MAX}) {
            Kit.due(30, "order(" + i + ", false)", x.order(i, false), -1);
            Kit.due(30, "order(" + i + ", true)", x.order(i, true), -1);
        }
        x.clear(1);
        Kit.due(30, "order(0, true), the first one can't", x.order(0, true), 2);
        Kit.due(30, "order(1, true), the first one can't", x.order(1, true), 3);
        Kit.due(30, "order(2, true), the first one can't", x.order(2, true), -1);
        plainFirst();
        RankEntry l = Kit.idle();
        Kit.serve(l, 1, 50, 64, 18);
        l.arrive(1, 296);
        Kit.due(30, "order(0, false), a cycle too late", l.order(0, false), -1);
        l.run(1);
        Kit.due(30, "order(0, false), the last cycle", l.order(0, false), 1);
        Kit.due(30, "order(0, true), the last cycle", l.order(0, true), 1);
        RankEntry y = Kit.idle();
        Kit.serve(y, 8, 50, 64, 18);
        y.hold(8, true);
        // it begins at 6, then every 3 cycles till 300; plain: at 6, then every 13 till 292
        Kit.due(30, "order(98, false)", y.order(98, false), 8);
        Kit.due(30, "order(99, false)", y.order(99, false), -1);
        Kit.due(30, "order(22, true)", y.order(22, true), 8);
        Kit.due(30, "order(23, true)", y.order(23, true), -1);
        RankEntry z = Kit.idle();
        Kit.serve(z, 1, 50, 64, 18);
        Kit.serve(z, 2, 60, 64, 18);
        z.pend(1);
        z.till(1);
        z.pend(2);
        z.run(2);
        Kit.due(30, "order(0, true), chaining already", z.order(0, true), 2);
        Kit.due(30, "state(0)", z.state(0), 2);
        Kit.due(30, "quiet(true): 1 more, 1, 6", z.quiet(true), 8);
    }

    /** The plain machine keeps to the one that it stacks for, but only if that still can. */
    private static void plainFirst() {
        RankEntry x = Kit.with(0, 17, 100, 11, 0, 2);
        x.split(1);
        Kit.serve(x, 1, 60, 64, 18);
        Kit.serve(x, 2, 50, 64, 18);
        x.run(1);
        x.pend(1);
        x.run(3);
        x.pend(2);
        Kit.due(30, "order(0, true), the first", x.order(0, true), 1);
        Kit.due(30, "order(0, false), the late one", x.order(0, false), 2);
        x.rank(1, 99);
        Kit.due(30, "order(0, true), the group 49 of 50", x.order(0, true), 1);
        x.rank(1, 100);
        Kit.due(30, "order(0, true), the group 50 of 50", x.order(0, true), 2);
        x.rank(1, 60);
        x.enable(1, false);
        Kit.due(30, "order(0, true), not enabled", x.order(0, true), 2);
    }

    private static void quiet() {
        RankEntry x = Kit.idle();
        Kit.serve(x, 1, 50, 64, 18);
        Kit.serve(x, 2, 60, 64, 18);
        Kit.due(31, "quiet(false), now", x.quiet(false), 0);
        Kit.due(31, "quiet(true), now", x.quiet(true), 0);
        x.pend(1);
        Kit.due(31, "quiet(false)", x.quiet(false), 13);
        Kit.due(31, "quiet(true)", x.quiet(true), 13);
        x.pend(2);
        Kit.due(31, "quiet(false), two", x.quiet(false), 16);
        Kit.due(31, "quiet(true), two", x.quiet(true), 26);
        x.run(10);
        Kit.due(31, "quiet(false), on", x.quiet(false), 6);
        RankEntry y = Kit.idle();
        Kit.serve(y, 8, 50, 64, 18);
        y.hold(8, true);
        Kit.due(31, "quiet(false), held", y.quiet(false), -1);
        Kit.due(31, "quiet(true), held", y.quiet(true), -1);
        RankEntry z = new RankEntry();
        z.run(200);
        Kit.due(31, "quiet(false), locked", z.quiet(false), -1);
        Kit.due(31, "quiet(true), locked", z.quiet(true), -1);
        longQuiet();
    }

    /** Handlers of 70 divisions, ever longer, up to the last cycle that is foretold and beyond it. */
    private static void longQuiet() {
        for (int more = 0; more < 7; more++) {
            RankEntry w = Kit.idle();
            int[] code = new int[3 * (73 + more) + 1];
            for (int i = 0; i < 73 + more; i++) {
                boolean divides = i > 0 && i < 71;
                code[3 * i] = divides ? 5 : 1;
                code[3 * i + 1] = divides ? 0 : 1;
                code[3 * i + 2] = divides ? 1 : 9;
            }
            code[3 * (73 + more)] = 18;
            Kit.serve(w, 1, 50, 64, code);
            w.pend(1);
            int due = 6 + 3 + more + 280 + 1 + 6;
            Kit.due(31, "quiet(false), long", w.quiet(false), due <= 300 ? due : -1);
            Kit.due(33, "keeps(), long", w.keeps(), due <= 300 ? 1 : -1);
            w.reset();
            w.arrive(1, 5);
            Kit.due(31, "quiet(false), now, though one will come", w.quiet(false), 0);
            w.run(5);
            Kit.due(31, "quiet(false), stacking", w.quiet(false), due <= 301 ? due - 1 : -1);
            Kit.due(31, "cost(1)", w.cost(1), 284 + more);
        }
    }

    private static void window() {
        RankEntry x = Kit.idle();
        Kit.serve(x, 1, 50, 64, 18);
        Kit.serve(x, 2, 40, 64, 18);
        Kit.serve(x, 3, 60, 64, 18);
        for (int source : new int[] {-1, 18, 20, MIN, MAX}) {
            Kit.due(32, "window(" + source + ")", x.window(source), -1);
        }
        Kit.due(32, "window(17), not enabled", x.window(17), 0);
        Kit.due(32, "window(1), nothing else", x.window(1), (1 << 20) - 1);
        x.pend(1);
        // 1 begins at 6, ends at 7; of the rank 40 it is late till behind 5; the rank 60 is chained behind 1
        Kit.due(32, "window(2)", x.window(2), (1 << 20) - 1);
        Kit.due(32, "window(3): not while 1 is to begin", x.window(3), (1 << 20) - 1 - 63);
        Kit.due(32, "window(1): merged, then again", x.window(1), (1 << 20) - 1);
        Kit.due(32, "count(9), nothing merged here", x.count(9), 0);
        RankEntry y = Kit.idle();
        Kit.serve(y, 4, 9, 64, 11, 0, 64);
        Kit.serve(y, 5, 9, 72, 18);
        y.pend(4);
        // 4 never ends, and 5 of the same rank never begins
        Kit.due(32, "window(5)", y.window(5), 0);
        y.rank(5, 8);
        Kit.due(32, "window(5), of less rank", y.window(5), (1 << 20) - 1);
        RankEntry z = Kit.with(0, 16, 1, 5, 0, 1, 11, 0, 5);
        Kit.put(z, 2, 1, 1, 1, 11, 0, 5);
        Kit.serve(z, 5, 8, 64, 18);
        z.run(1);
        Kit.due(32, "window(5), shut", z.window(5), 0);
        // a handler of 36 cycles: one of its group begins behind it, if that is within 40
        RankEntry w = Kit.idle();
        Kit.serve(w, 6, 9, 64, 1, 1, 1, 5, 0, 1, 5, 0, 1, 5, 0, 1, 5, 0, 1, 5, 0, 1, 5, 0, 1, 5, 0, 1, 5, 0, 1,
            5, 0, 1, 5, 0, 1, 18);
        w.rank(7, 9);
        w.vector(7, 64);
        w.enable(7, true);
        Kit.due(32, "cost(6)", w.cost(6), 42);
        w.pend(6);
        w.till(6);
        // it ends 42 cycles on, 7 begins by a chain at 44: within 40 from 4 cycles on
        Kit.due(32, "window(7)", w.window(7), (1 << 20) - 16);
    }

    private static void keeps() {
        RankEntry x = Kit.with(0, 1, 0, 9, 3, 1, 0, 20, 2, 8, 11, 0, 9);
        Kit.serve(x, 1, 50, 64, 1, 0, 1, 1, 3, 3, 6, 0, 0, 20, 2, 9, 18);
        x.run(3);
        Kit.due(33, "keeps(), there is none", x.keeps(), -1);
        x.pend(1);
        Kit.due(33, "keeps()", x.keeps(), 1);
        x.run(1);
        Kit.due(33, "keeps(), stacking", x.keeps(), -1);
        x.till(1);
        Kit.due(33, "keeps(), in the handler, there is none", x.keeps(), -1);
        Kit.serve(x, 2, 40, 100, 1, 1, 1, 18);
        x.pend(2);
        Kit.due(33, "keeps(), nested", x.keeps(), 1);
        RankEntry y = Kit.with(0, 1, 1, 1, 5, 0, 1, 11, 0, 6);
        Kit.serve(y, 1, 50, 64, 18);
        y.run(2);
        y.pend(1);
        Kit.due(33, "keeps(), stalled", y.keeps(), -1);
        y.run(3);
        Kit.due(33, "keeps(), stalled no more", y.keeps(), 1);
        Kit.put(y, 64, 11, 0, 64);
        Kit.due(33, "keeps(), it never ends", y.keeps(), -1);
        RankEntry z = Kit.idle();
        Kit.serve(z, 8, 50, 64, 18);
        z.hold(8, true);
        Kit.due(33, "keeps(), held: it never is unstacked", z.keeps(), -1);
        RankEntry w = new RankEntry();
        w.run(1);
        Kit.due(33, "keeps(), it will lock", w.keeps(), -1);
    }

    /** Handlers that spoil one thing each. */
    private static void keepsNot() {
        int[][] spoilers = {
            {10, 7, 10, 6, 10, 5, 9, 4, 9, 6, 9, 7},                      // R3
            {26, 3},                                                    // PC
            {10, 7, 1, 6, 1, 6, 7, 6, 9, 7},                            // Z
            {10, 7, 1, 6, 2, 6, 7, 6, 9, 7},                            // N
            {9, 1, 9, 1, 9, 1, 9, 1, 9, 6, 1, 7, 90, 7, 7, 8, 9, 7},     // SP
        };
        for (int i = 0; i < spoilers.length; i++) {
            RankEntry x = Kit.with(0, 1, 3, 5, 1, 6, 9, 11, 0, 6);
            int[] code = new int[spoilers[i].length + 1];
            System.arraycopy(spoilers[i], 0, code, 0, spoilers[i].length);
            code[spoilers[i].length] = 18;
            Kit.serve(x, 1, 50, 64, code);
            x.run(2);
            x.pend(1);
            Kit.due(33, "keeps(), spoiled " + i, x.keeps(), 0);
        }
        // F: no FOURS are stacked when FLOATS is 0, so a handler's numbers stay
        RankEntry f = Kit.idle();
        Kit.serve(f, 1, 50, 64, 20, 3, 9, 18);
        f.pend(1);
        Kit.due(33, "keeps(), F3", f.keeps(), 0);
        RankEntry g = Kit.idle();
        Kit.serve(g, 1, 50, 64, 1, 0, 1, 3, 4, 0, 24, 3, 4, 20, 0, 0, 22, 0, 3, 20, 3, 0, 18);
        g.pend(1);
        Kit.due(33, "keeps(), F0 is 0 with a sign", g.keeps(), 0);
        // R4 to R7 are not asked for
        RankEntry r = Kit.idle();
        Kit.serve(r, 1, 50, 64, 1, 4, 9, 1, 7, 9, 18);
        r.pend(1);
        Kit.due(33, "keeps(), R4", r.keeps(), 1);
    }

    private static void nothingChanges() {
        RankEntry x = Kit.with(0, 20, 0, 16, 27, 0, 9, 0, 29, 0, 0, 2, 0, 1, 14, 2, 11, 0, 3);
        Kit.serve(x, 1, 50, 64, 20, 1, 7, 25, 4, 0, 17, 200, 18);
        Kit.serve(x, 2, 40, 80, 27, 0, 15, 3, 16, 0, 18);
        Kit.serve(x, 9, 45, 80);
        x.timer(9);
        x.arrive(1, 4);
        x.arrive(3, 30);
        x.hold(9, true);
        for (int i = 0; i < 8; i++) {
            x.run(3);
            String before = Kit.seen(x);
            x.soon(1);
            x.order(3, false);
            x.order(3, true);
            x.quiet(false);
            x.quiet(true);
            x.window(1);
            x.keeps();
            x.splits(2);
            x.escalates(18);
            x.cost(1);
            x.pushes(1);
            x.room(true);
            Kit.due(30, "nothing is changed by what is foretold", Kit.seen(x).equals(before), true);
        }
    }
}
