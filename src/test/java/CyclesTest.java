/** Promises 13 and 14, and the machine that they drive: phases, ranks, chains, late ones, lazy saving, faults. */
public final class CyclesTest {
    private static final int MIN = Integer.MIN_VALUE;
    private static final int MAX = Integer.MAX_VALUE;

    public static void main(String[] args) {
        run();
        till();
        stacking();
        late();
        chaining();
        abandoned();
        nested();
        base();
        shutAndSleep();
        lazySaved();
        lazySpared();
        lazyForeign();
        noFiniteNumbers();
        noRoomForAWord();
        noRoomForTheFour();
        badFrames();
        faults();
        Kit.end("CyclesTest");
    }

    private static void run() {
        RankEntry x = Kit.idle();
        for (int cycles : new int[] {0, -1, 201, MIN, MAX}) {
            Kit.due(13, "run(" + cycles + ")", x.run(cycles), -1);
        }
        Kit.due(13, "count(0), nothing is done", x.count(0), 0);
        Kit.due(13, "run(1)", x.run(1), 1);
        Kit.due(13, "run(200)", x.run(200), 200);
        Kit.due(13, "count(0)", x.count(0), 201);
        RankEntry y = new RankEntry();
        Kit.due(13, "run(200), it locks at 8", y.run(200), 8);
        Kit.due(13, "state(0)", y.state(0), 5);
        Kit.due(13, "run(1), locked", y.run(1), 0);
        Kit.due(13, "run(0), locked", y.run(0), -1);
        Kit.due(13, "count(0), locked", y.count(0), 8);
        Kit.due(13, "state(1), locked", y.state(1), 0);
    }

    private static void till() {
        RankEntry x = Kit.idle();
        Kit.serve(x, 1, 5, 64, 18);
        x.enable(2, true);
        for (int source : new int[] {-1, 21, MIN, MAX}) {
            Kit.due(14, "till(" + source + ")", x.till(source), -1);
        }
        Kit.due(14, "count(0), nothing is done", x.count(0), 0);
        x.arrive(1, 295);
        Kit.due(14, "till(1), the last cycle", x.till(1), 300);
        Kit.due(14, "till(1), it has begun already", x.till(1), -1);
        Kit.due(14, "count(0), 300 more", x.count(0), 600);
        x.arrive(1, 296);
        Kit.due(14, "till(1), a cycle too late", x.till(1), -1);
        Kit.due(14, "till(1), one more", x.till(1), 1);
        RankEntry y = new RankEntry();
        Kit.due(14, "till(20)", y.till(20), 7);
        Kit.due(14, "till(20), it locks", y.till(20), -1);
        Kit.due(14, "count(0), it locked at 8", y.count(0), 8);
        Kit.due(14, "till(20), locked", y.till(20), -1);
        Kit.due(14, "count(0), locked", y.count(0), 8);
        RankEntry z = Kit.idle();
        Kit.serve(z, 1, 5, 64, 18);
        Kit.serve(z, 2, 4, 64, 18);
        z.pend(1);
        z.pend(2);
        Kit.due(14, "till(1), behind another one", z.till(1), 9);
    }

    private static void stacking() {
        RankEntry x = Kit.with(0, 1, 0, 11, 1, 1, 12, 1, 2, 13, 1, 3, 14, 1, 4, 15, 3, 5, 4, 11, 0, 18);
        Kit.serve(x, 6, 70, 100, 18);
        x.run(6);
        Kit.due(13, "state(7)", x.state(7), 1);
        x.pend(6);
        int[] words = {11, 12, 13, 14, 18, 23042};
        for (int step = 0; step < 6; step++) {
            Kit.due(13, "run(1)", x.run(1), 1);
            Kit.due(13, "word(" + step + ")", Kit.word(x, step), words[step]);
            Kit.due(13, "state(5)", x.state(5), step + 1);
            Kit.due(13, "state(0)", x.state(0), step < 5 ? 1 : 0);
            Kit.due(13, "state(1)", x.state(1), step < 5 ? step + 1 : 0);
        }
        Kit.due(13, "state(4)", x.state(4), 100);
        Kit.due(13, "nest(0)", x.nest(0), 6);
        Kit.due(13, "pending 6", x.source(6, 3), 0);
        Kit.due(13, "active 6", x.source(6, 4), 1);
        Kit.due(13, "flags stay", x.state(7), 1);
        x.run(1);
        Kit.due(13, "state(0), unstacking", x.state(0), 3);
        Kit.due(13, "state(1), no step yet", x.state(1), 0);
        for (int step = 1; step < 6; step++) {
            x.run(1);
            Kit.due(13, "state(1), unstacking", x.state(1), step);
            Kit.due(13, "state(5), unstacking", x.state(5), 6);
        }
        x.run(1);
        Kit.due(13, "state(0), returned", x.state(0), 0);
        Kit.due(13, "state(5), returned", x.state(5), 0);
        Kit.due(13, "state(4), returned", x.state(4), 18);
        Kit.due(13, "reg(0)", Kit.reg(x, 0), 11);
        Kit.due(13, "word(5), kept", Kit.word(x, 5), 23042);
        Kit.due(13, "count(13)", x.count(13), 6);
    }

    /** A handler's own registers are given back, those behind R3 are not. */
    private static void late() {
        RankEntry x = Kit.idle();
        Kit.serve(x, 3, 60, 64, 1, 0, 9, 1, 4, 9, 18);
        Kit.serve(x, 2, 50, 80, 27, 5, 18);
        x.pend(3);
        x.run(5);
        x.pend(2);
        x.run(1);
        Kit.due(13, "nest(0), the late one", x.nest(0), 2);
        Kit.due(13, "count(3)", x.count(3), 1);
        Kit.due(13, "pending 3 still", x.source(3, 3), 1);
        Kit.dueEvent(24, x, 0, 0, 2, 6, 1);
        x.run(2);
        Kit.due(13, "state(0), chaining", x.state(0), 2);
        x.run(2);
        Kit.due(13, "nest(0), chained", x.nest(0), 3);
        Kit.due(13, "count(2)", x.count(2), 1);
        Kit.due(13, "count(3) stays", x.count(3), 1);
        x.run(3);
        Kit.due(13, "state(0), unstacking", x.state(0), 3);
        x.run(6);
        Kit.due(13, "reg(0), given back", Kit.reg(x, 0), 0);
        Kit.due(13, "reg(4), kept", Kit.reg(x, 4), 9);
        RankEntry y = Kit.idle();
        Kit.serve(y, 3, 60, 64, 18);
        Kit.serve(y, 2, 60, 64, 18);
        y.pend(3);
        y.run(1);
        y.pend(2);
        y.run(5);
        Kit.due(13, "nest(0), of one rank the lower number", y.nest(0), 2);
        RankEntry z = Kit.idle();
        Kit.serve(z, 3, 65, 64, 18);
        Kit.serve(z, 2, 66, 64, 18);
        z.split(4);
        z.pend(2);
        z.run(1);
        z.pend(3);
        z.run(5);
        Kit.due(13, "nest(0), of one group the lesser sub", z.nest(0), 3);
        Kit.due(13, "state(13), of one group none breaks in", z.state(13), -1);
        Kit.due(13, "state(12)", z.state(12), 4);
    }

    private static void chaining() {
        RankEntry x = Kit.idle();
        Kit.serve(x, 3, 60, 64, 18);
        Kit.serve(x, 2, 50, 64, 18);
        x.pend(3);
        x.pend(2);
        x.run(7);
        Kit.due(13, "state(0), chaining", x.state(0), 2);
        Kit.due(13, "state(1), no step yet", x.state(1), 0);
        x.run(1);
        Kit.due(13, "state(1), a step", x.state(1), 1);
        x.clear(3);
        x.run(1);
        Kit.due(13, "state(0), there is none", x.state(0), 3);
        Kit.due(13, "state(1), there is none", x.state(1), 0);
        x.run(3);
        x.pend(3);
        Kit.due(13, "count(4)", x.count(4), 0);
        x.run(1);
        Kit.due(13, "count(4), abandoned", x.count(4), 1);
        Kit.due(13, "state(0), chaining", x.state(0), 2);
        Kit.due(13, "state(1), its first step is now", x.state(1), 1);
        Kit.dueEvent(24, x, 0, 4, 3, 13, 3);
        x.run(1);
        Kit.due(13, "nest(0)", x.nest(0), 3);
        Kit.due(13, "state(5), the frame was not touched", x.state(5), 6);
        Kit.dueEvent(24, x, 0, 1, 3, 14, 2);
    }

    /** What comes at the last step of an unstacking still ends it; what comes behind it is stacked for anew. */
    private static void abandoned() {
        RankEntry x = Kit.idle();
        Kit.serve(x, 3, 60, 64, 18);
        x.pend(3);
        x.run(12);
        Kit.due(13, "state(1), five steps done", x.state(1), 5);
        x.pend(3);
        x.run(1);
        Kit.dueEvent(24, x, 0, 4, 3, 13, 5);
        Kit.due(13, "state(0)", x.state(0), 2);
        x.run(1);
        Kit.due(13, "nest(0)", x.nest(0), 3);
        x.run(1);
        Kit.due(13, "state(0), unstacking", x.state(0), 3);
        x.arrive(3, 7);
        x.run(6);
        Kit.due(13, "state(0), returned", x.state(0), 0);
        x.run(1);
        Kit.due(13, "state(0), stacking", x.state(0), 1);
        Kit.due(13, "count(4)", x.count(4), 1);
    }

    private static void nested() {
        RankEntry x = Kit.idle();
        Kit.serve(x, 4, 90, 64, 11, 0, 64);
        Kit.serve(x, 3, 60, 72, 11, 0, 72);
        Kit.serve(x, 2, 50, 80, 1, 7, 0, 18);
        x.pend(4);
        x.till(4);
        x.pend(3);
        x.pend(2);
        Kit.due(13, "till(2)", x.till(2), 6);
        Kit.due(13, "state(12)", x.state(12), 50);
        Kit.due(13, "nest(0)", x.nest(0), 4);
        Kit.due(13, "nest(1)", x.nest(1), 2);
        Kit.due(13, "till(3), chained", x.till(3), 4);
        Kit.due(13, "nest(1)", x.nest(1), 3);
        Kit.due(13, "state(5)", x.state(5), 12);
        Kit.due(13, "word(10), where it was", Kit.word(x, 10), 64);
        x.pend(2);
        x.till(2);
        Kit.due(13, "count(11)", x.count(11), 3);
        Kit.due(13, "count(12)", x.count(12), 3);
        Kit.due(13, "count(13)", x.count(13), 18);
        x.run(8);
        Kit.due(13, "count(11), one less", x.count(11), 2);
        Kit.due(13, "count(12), the most", x.count(12), 3);
        Kit.due(13, "state(4), back in 3", x.state(4), 72);
        Kit.dueEvent(24, x, 0, 5, 3, 30, 12);
        Kit.dueEvent(24, x, 1, 2, 2, 24, 2);
    }

    private static void base() {
        RankEntry x = Kit.with(0, 17, 40, 11, 0, 2);
        Kit.serve(x, 2, 40, 64, 18);
        Kit.serve(x, 3, 39, 64, 18);
        x.run(1);
        Kit.due(13, "state(9)", x.state(9), 40);
        Kit.due(13, "state(12)", x.state(12), 40);
        x.pend(2);
        Kit.due(13, "state(13), 40 is no less", x.state(13), -1);
        x.pend(3);
        Kit.due(13, "state(13)", x.state(13), 3);
        x.clear(3);
        x.split(3);
        Kit.due(13, "state(12) by 3", x.state(12), 5);
        x.split(6);
        Kit.due(13, "state(12) by 6: none but HARD", x.state(12), 0);
        Kit.put(x, 2, 17, 0, 11, 0, 4);
        x.run(1);
        Kit.due(13, "state(12), no base", x.state(12), 256);
        Kit.due(13, "state(13), no base", x.state(13), 2);
    }

    private static void shutAndSleep() {
        RankEntry x = Kit.with(0, 16, 3, 19, 1, 5, 7, 16, 2, 19, 1, 6, 8, 11, 0, 12);
        Kit.serve(x, 2, 40, 64, 18);
        x.run(2);
        Kit.due(13, "state(8)", x.state(8), 1);
        Kit.due(13, "state(12)", x.state(12), 0);
        Kit.due(13, "state(3)", x.state(3), 1);
        x.run(10);
        Kit.due(13, "state(3), asleep still", x.state(3), 1);
        Kit.due(13, "state(4)", x.state(4), 3);
        Kit.due(13, "count(10)", x.count(10), 2);
        x.pend(2);
        Kit.due(13, "state(13), shut", x.state(13), -1);
        x.run(1);
        Kit.due(13, "state(3), woken", x.state(3), 0);
        Kit.due(13, "reg(5), in the same cycle", Kit.reg(x, 5), 7);
        x.clear(2);
        x.run(2);
        Kit.due(13, "state(8), open", x.state(8), 0);
        Kit.due(13, "state(3), asleep", x.state(3), 1);
        x.pend(3);
        x.run(5);
        Kit.due(13, "state(3), one that is not enabled does not wake", x.state(3), 1);
        x.pend(2);
        x.run(1);
        Kit.due(13, "state(3), stacking", x.state(3), 0);
        Kit.due(13, "state(0), stacking", x.state(0), 1);
        x.run(5);
        Kit.due(13, "nest(0)", x.nest(0), 2);
        x.run(7);
        Kit.due(13, "state(4), behind the sleep", x.state(4), 9);
        Kit.due(13, "state(3), it sleeps no more", x.state(3), 0);
        x.run(1);
        Kit.due(13, "reg(6)", Kit.reg(x, 6), 8);
        RankEntry y = Kit.with(0, 16, 1, 11, 0, 2);
        y.enable(18, true);
        y.rank(18, 0);
        y.run(1);
        Kit.put(y, 2, 255);
        y.run(1);
        Kit.due(13, "shut: a fault of the rank 0 escalates", y.state(13), 20);
        Kit.due(13, "count(8)", y.count(8), 1);
    }

    private static void lazySaved() {
        RankEntry x = Kit.with(0, 20, 0, 16, 20, 1, 32, 20, 2, 48, 20, 3, 64, 11, 0, 12);
        Kit.serve(x, 2, 40, 64, 20, 3, 160, 18);
        x.run(4);
        x.pend(2);
        x.run(1);
        Kit.due(13, "state(5), four and one", x.state(5), 5);
        Kit.due(13, "state(11)", x.state(11), 0);
        Kit.due(13, "state(10), not yet begun", x.state(10), 1);
        x.run(5);
        Kit.due(13, "state(5)", x.state(5), 10);
        Kit.due(13, "state(10), begun", x.state(10), 0);
        Kit.due(13, "word(9)", Kit.word(x, 9), 23044);
        Kit.due(13, "word(0), as it was", Kit.word(x, 0), 0);
        for (int step = 1; step <= 4; step++) {
            x.run(1);
            Kit.due(13, "state(0), saving", x.state(0), step < 4 ? 4 : 0);
            Kit.due(13, "state(1), saving", x.state(1), step % 4);
            Kit.due(13, "word", Kit.word(x, step - 1), Float.floatToIntBits(step));
            Kit.due(13, "state(4), it stays", x.state(4), 64);
        }
        Kit.due(13, "state(11), none", x.state(11), -1);
        Kit.due(13, "count(5)", x.count(5), 1);
        Kit.due(13, "count(10), not done yet", x.count(10), 4);
        x.run(1);
        Kit.due(13, "reg(11)", Kit.reg(x, 11), Float.floatToIntBits(10f));
        Kit.due(13, "state(10)", x.state(10), 1);
        x.run(10);
        Kit.due(13, "state(0), ten steps", x.state(0), 3);
        Kit.due(13, "state(1)", x.state(1), 9);
        x.run(1);
        Kit.due(13, "state(0)", x.state(0), 0);
        Kit.due(13, "reg(11), given back", Kit.reg(x, 11), Float.floatToIntBits(4f));
        Kit.due(13, "state(5)", x.state(5), 0);
        Kit.due(13, "count(6)", x.count(6), 0);
        Kit.due(13, "state(10), it had FOURS", x.state(10), 1);
    }

    private static void lazySpared() {
        RankEntry x = Kit.with(0, 20, 0, 16, 11, 0, 3);
        Kit.serve(x, 2, 40, 64, 18);
        Kit.serve(x, 1, 30, 64, 18);
        x.run(1);
        x.pend(2);
        x.run(7);
        Kit.due(13, "state(0)", x.state(0), 3);
        x.pend(1);
        x.run(2);
        Kit.due(13, "nest(0)", x.nest(0), 1);
        Kit.due(13, "state(11), abandoning keeps it", x.state(11), 0);
        x.run(6);
        Kit.due(13, "state(1), six steps", x.state(1), 5);
        x.run(1);
        Kit.due(13, "state(0)", x.state(0), 0);
        Kit.due(13, "count(6)", x.count(6), 1);
        Kit.due(13, "count(5)", x.count(5), 0);
        Kit.due(13, "state(11)", x.state(11), -1);
        Kit.due(13, "state(10)", x.state(10), 1);
        Kit.due(13, "state(5)", x.state(5), 0);
        RankEntry y = Kit.with(0, 20, 0, 16, 11, 0, 3);
        Kit.serve(y, 2, 40, 64, 11, 0, 64);
        Kit.serve(y, 1, 30, 80, 20, 0, 8, 18);
        y.run(1);
        y.pend(2);
        y.till(2);
        y.pend(1);
        y.till(1);
        Kit.due(13, "state(11), the outer four wait", y.state(11), 0);
        Kit.due(13, "state(5), no more of them", y.state(5), 16);
        y.run(6);
        Kit.due(13, "word(0), saved for the outermost", Kit.word(y, 0), Float.floatToIntBits(1f));
        Kit.due(13, "state(0)", y.state(0), 3);
        y.run(6);
        Kit.due(13, "state(0), six steps: no FOURS", y.state(0), 0);
        Kit.due(13, "state(10)", y.state(10), 0);
        Kit.due(13, "reg(8), the inner one's stays", Kit.reg(y, 8), Float.floatToIntBits(0.5f));
    }

    /** A handler forges a frame with FOURS while others wait: those are taken from the cells, LAZY stays. */
    private static void lazyForeign() {
        RankEntry x = Kit.with(0, 20, 0, 16, 11, 0, 3);
        Kit.serve(x, 2, 40, 64, 1, 0, 63, 7, 0, 24, 11, 0, 70);
        Kit.serve(x, 1, 30, 80, 10, 5, 1, 6, 4, 6, 5, 6, 9, 5, 18);
        x.run(1);
        x.pend(2);
        x.till(2);
        x.run(2);
        x.pend(1);
        x.till(1);
        x.run(5);
        Kit.due(13, "state(5)", x.state(5), 16);
        Kit.due(13, "word(15)", Kit.word(x, 15), 23044);
        Kit.due(13, "state(0)", x.state(0), 3);
        x.run(9);
        Kit.due(13, "state(1), ten steps", x.state(1), 9);
        x.run(1);
        Kit.due(13, "state(0)", x.state(0), 0);
        Kit.due(13, "state(5)", x.state(5), 6);
        Kit.due(13, "state(11) stays", x.state(11), 0);
        Kit.due(13, "state(10)", x.state(10), 1);
        Kit.due(13, "count(6)", x.count(6), 0);
        Kit.due(13, "reg(8): R2 of the outer frame", Kit.reg(x, 8), 0);
        Kit.due(13, "reg(10): 3, the place in the outer frame", Kit.reg(x, 10), 3);
        Kit.due(13, "reg(11): the mark of the outer frame", Kit.reg(x, 11), 23044);
        Kit.due(13, "reg(0)", Kit.reg(x, 0), 63 << 24);
        x.pend(1);
        x.run(1);
        Kit.due(13, "state(11), four more: the new ones", x.state(11), 6);
        Kit.due(13, "state(5)", x.state(5), 11);
    }

    private static void noFiniteNumbers() {
        RankEntry x = Kit.idle();
        // from the cell 0 on: infinite, no number, 2.0, the least one below 0; then a frame with FOURS to 5
        Kit.serve(x, 1, 30, 64, 10, 5, 10, 5, 10, 5, 10, 5, 10, 5, 10, 5,
            1, 0, 255, 7, 0, 23, 9, 0,
            1, 0, 255, 7, 0, 23, 1, 1, 1, 6, 0, 1, 9, 0,
            1, 0, 128, 7, 0, 23, 9, 0,
            1, 0, 128, 7, 0, 24, 6, 0, 1, 9, 0,
            9, 2, 9, 2, 9, 2, 9, 2, 1, 0, 5, 9, 0, 1, 0, 90, 7, 0, 8, 1, 1, 6, 6, 0, 1, 9, 0, 18);
        Kit.put(x, 3, 0, 0, 11, 0, 5);
        x.pend(1);
        x.till(1);
        x.run(6 + 3 + 5 + 3 + 4 + 4 + 2 + 5 + 1);
        Kit.due(13, "state(5)", x.state(5), 10);
        Kit.due(13, "state(0)", x.state(0), 3);
        Kit.due(13, "word(1)", Kit.word(x, 1), 0x7F800001);
        Kit.due(13, "word(9)", Kit.word(x, 9), 23046);
        x.run(10);
        Kit.due(13, "state(4)", x.state(4), 5);
        Kit.due(13, "state(5)", x.state(5), 0);
        Kit.due(13, "state(6)", x.state(6), 0);
        Kit.due(13, "state(7), of the mark", x.state(7), 1);
        Kit.due(16, "reg(8), infinite", Kit.reg(x, 8), 0);
        Kit.due(16, "reg(9), no number", Kit.reg(x, 9), 0);
        Kit.due(16, "reg(10)", Kit.reg(x, 10), 0x40000000);
        Kit.due(16, "reg(11)", Kit.reg(x, 11), 0x80000001);
        Kit.due(13, "state(10)", x.state(10), 1);
    }

    /** Fills the stack up to so many words by pushing at 0, then jumps for ever at 3. */
    private static RankEntry filled(int words, boolean floats) {
        RankEntry x = Kit.with(0, 9, 0, 11, 0, 0);
        x.run(200 > 2 * words ? 2 * words : 200);
        Kit.put(x, 0, 20, 0, 16, 11, 0, 3);
        if (!floats) {
            Kit.put(x, 0, 11, 0, 0);
        }
        x.run(2);
        return x;
    }

    private static void noRoomForAWord() {
        RankEntry x = filled(93, false);
        Kit.due(13, "state(5)", x.state(5), 93);
        Kit.serve(x, 2, 40, 64, 11, 0, 64);
        Kit.serve(x, 19, 50, 80, 11, 0, 80);
        x.pend(2);
        x.run(3);
        Kit.due(13, "state(5), three had room", x.state(5), 96);
        Kit.due(13, "count(7)", x.count(7), 0);
        x.run(1);
        Kit.due(13, "count(7), FULL", x.count(7), 1);
        Kit.dueEvent(24, x, 0, 3, 19, 97 * 2 - 6 + 4, 0);
        Kit.due(13, "count(8), not escalated", x.count(8), 0);
        x.run(2);
        Kit.due(13, "count(7), nothing more", x.count(7), 1);
        Kit.due(13, "nest(0): its rank is less than FULL's", x.nest(0), 2);
        Kit.due(13, "pending 19", x.source(19, 3), 1);
        Kit.due(13, "count(13)", x.count(13), 96);
        RankEntry y = filled(92, false);
        Kit.serve(y, 2, 40, 64, 11, 0, 64);
        Kit.serve(y, 19, 30, 80, 11, 0, 80);
        y.pend(2);
        y.run(6);
        Kit.due(13, "nest(0): FULL is late", y.nest(0), 19);
        Kit.due(13, "count(3)", y.count(3), 1);
        // a later frame, when there is room again, is whole
        RankEntry a = filled(93, false);
        Kit.serve(a, 2, 40, 64, 10, 7, 10, 7, 10, 7, 10, 7, 10, 7, 10, 7, 11, 0, 76);
        a.enable(19, true);
        a.pend(2);
        a.run(6 + 7);
        Kit.due(13, "state(5), six off", a.state(5), 90);
        Kit.serve(a, 1, 10, 80, 11, 0, 80);
        a.pend(1);
        a.run(6);
        Kit.due(13, "nest(1)", a.nest(1), 1);
        Kit.due(13, "state(5), six more", a.state(5), 96);
        Kit.due(13, "word(95), the mark", Kit.word(a, 95), 23040);
        RankEntry z = filled(90, false);
        Kit.serve(z, 2, 40, 64, 11, 0, 64);
        z.pend(2);
        z.run(6);
        Kit.due(13, "count(7): six have room", z.count(7), 0);
        Kit.due(13, "state(5)", z.state(5), 96);
    }

    private static void noRoomForTheFour() {
        RankEntry x = filled(93, true);
        Kit.serve(x, 2, 40, 64, 11, 0, 64);
        x.pend(2);
        x.run(1);
        Kit.due(13, "count(7)", x.count(7), 1);
        Kit.due(13, "state(5): all is left out", x.state(5), 93);
        Kit.due(13, "state(11): none", x.state(11), -1);
        x.run(5);
        Kit.due(13, "count(7), nothing more", x.count(7), 1);
        Kit.due(13, "state(5)", x.state(5), 93);
        Kit.due(13, "nest(0): HARD, late", x.nest(0), 20);
        Kit.due(13, "count(3)", x.count(3), 1);
        RankEntry y = filled(92, true);
        Kit.serve(y, 2, 40, 64, 11, 0, 64);
        y.pend(2);
        y.run(1);
        Kit.due(13, "state(5): four have room, a word has not", y.state(5), 96);
        Kit.due(13, "state(11)", y.state(11), 92);
        Kit.due(13, "count(7)", y.count(7), 1);
        y.run(5);
        Kit.due(13, "state(5)", y.state(5), 96);
        Kit.due(13, "word(95)", Kit.word(y, 95), 0);
    }

    /** A handler that spoils its frame: what is raised as it returns. */
    private static RankEntry spoiled(int... bytes) {
        RankEntry x = Kit.idle();
        int[] all = new int[bytes.length + 1];
        System.arraycopy(bytes, 0, all, 0, bytes.length);
        all[bytes.length] = 18;
        Kit.serve(x, 2, 40, 64, all);
        Kit.serve(x, 18, 50, 128, 11, 0, 128);
        Kit.serve(x, 19, 50, 128, 11, 0, 128);
        x.pend(2);
        x.till(2);
        for (int i = 0; i < 60 && x.state(0) == 0; i++) {
            x.run(1);
        }
        Kit.due(13, "state(0), unstacking", x.state(0), 3);
        Kit.due(13, "count(7), not yet", x.count(7), 0);
        x.run(1);
        return x;
    }

    private static void dueBad(String what, RankEntry x, int fault) {
        Kit.due(13, what + ": raised", x.count(7), 1);
        Kit.due(13, what + ": which", Kit.event(x, 0, 1), fault);
        Kit.due(13, what + ": state(0)", x.state(0), 2);
        Kit.due(13, what + ": state(1)", x.state(1), 0);
        x.run(2);
        Kit.due(13, what + ": nest(0)", x.nest(0), fault);
        Kit.due(13, what + ": chained", x.count(2), 1);
        Kit.due(13, what + ": abandoned", x.count(4), 0);
    }

    private static void badFrames() {
        dueBad("five words", spoiled(10, 7), 19);
        dueBad("a mark too low", spoiled(10, 7, 1, 6, 1, 3, 7, 6, 9, 7), 18);
        dueBad("a mark too high", spoiled(10, 7, 1, 6, 8, 2, 7, 6, 9, 7), 18);
        dueBad("FOURS of nine words", spoiled(10, 6, 10, 6, 9, 0, 9, 0, 9, 0, 9, 0, 1, 5, 4, 1, 7, 90, 7, 7, 8, 2, 7, 5, 9, 7), 19);
        dueBad("a place too high", spoiled(10, 7, 10, 6, 1, 6, 2, 7, 6, 8, 9, 6, 9, 7), 18);
        dueBad("a place below 0", spoiled(10, 7, 10, 6, 6, 6, 6, 1, 5, 1, 3, 6, 5, 9, 6, 9, 7), 18);
        RankEntry x = spoiled(10, 7, 10, 6, 1, 6, 255, 2, 6, 6, 1, 5, 1, 2, 6, 5, 9, 6, 9, 7);
        Kit.due(13, "the place 511: nothing is raised", x.count(7), 0);
        x.run(5);
        Kit.due(13, "state(4)", x.state(4), 511);
        RankEntry w = spoiled(10, 7, 9, 0, 9, 0, 9, 0, 1, 6, 200, 9, 6, 1, 6, 7, 2, 7, 6, 9, 7);
        Kit.due(13, "the mark 23047: nothing is raised", w.count(7), 0);
        w.run(9);
        Kit.due(13, "state(4)", w.state(4), 200);
        Kit.due(13, "state(6)", w.state(6), 1);
        Kit.due(13, "state(7)", w.state(7), 1);
        Kit.due(13, "state(10)", w.state(10), 1);
        Kit.due(13, "state(5)", w.state(5), 0);
        RankEntry y = spoiled(10, 7, 1, 6, 3, 2, 7, 6, 9, 7);
        Kit.due(13, "the mark 23043: nothing is raised", y.count(7), 0);
        y.run(5);
        Kit.due(13, "state(6)", y.state(6), 1);
        Kit.due(13, "state(7)", y.state(7), 1);
        Kit.due(13, "state(10)", y.state(10), 0);
    }

    private static void faults() {
        RankEntry x = Kit.with(0, 255);
        Kit.serve(x, 18, 50, 64, 255);
        Kit.serve(x, 20, 0, 80, 255);
        x.vector(20, 80);
        x.run(1);
        Kit.dueEvent(24, x, 0, 3, 18, 1, 0);
        Kit.due(13, "count(8), taken by itself", x.count(8), 0);
        Kit.due(13, "state(4) stays", x.state(4), 0);
        x.run(6);
        Kit.due(13, "nest(0)", x.nest(0), 18);
        x.run(1);
        Kit.dueEvent(24, x, 0, 3, 20, 8, 64);
        Kit.due(13, "count(8), escalated", x.count(8), 1);
        x.run(6);
        Kit.due(13, "nest(1)", x.nest(1), 20);
        Kit.due(13, "state(12)", x.state(12), -1);
        Kit.due(13, "run(9), locked at once", x.run(9), 1);
        Kit.dueEvent(24, x, 0, 3, -1, 15, 80);
        Kit.due(13, "state(0)", x.state(0), 5);
        Kit.due(13, "count(8), a lock is none", x.count(8), 1);
        Kit.due(13, "count(7)", x.count(7), 3);
        Kit.due(13, "count(10)", x.count(10), 0);
        RankEntry y = Kit.with(0, 255);
        y.rank(18, 50);
        y.run(1);
        Kit.due(13, "not enabled: HARD", Kit.event(y, 0, 1), 20);
        RankEntry z = Kit.with(0, 17, 50, 255);
        z.rank(18, 50);
        z.enable(18, true);
        z.run(2);
        Kit.due(13, "its group is no less than the limit: HARD", Kit.event(z, 0, 1), 20);
    }
}
